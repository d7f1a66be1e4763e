/-! LIFTED: 43.refq -/
/-- the factor at most n deep -/
noncomputable def qfac : Nat → Zs → Option (Except (Int32 × Int32) Unit × Zs)
  | 0, _ => none
  | n + 1, z => fX14_factor (fun z => fX14_expression (qfac n) z) (qfac n) z
theorem te_qfac {A : Nat → Nat → Nat → Nat} : ∀ (n : Nat), (∀ {h : Hp} {σ ρ ρ' : Zs} {v : Unit}, Rp A h σ ρ → qfac n ρ = some (.ok v, ρ') → ∀ l : Launch, Sp l mX14_factor (20 + 7 * n) 0 0 [.ref (A 14 0 0)] h (QV A v σ ρ') X0) ∧ (∀ {h : Hp} {σ ρ ρ' : Zs} {v : Int32 × Int32}, Rp A h σ ρ → qfac n ρ = some (.error v, ρ') → ∀ l : Launch, Sp l mX14_factor (20 + 7 * n) 1 8 [.ref (A 14 0 0)] h QF (XW A v σ ρ'))
  | 0 => by
    refine ⟨fun hz hr => ?_, fun hz hr => ?_⟩ <;> (rw [qfac.eq_1] at hr; exact nono hr)
  | n + 1 => by
    obtain ⟨i1, i2⟩ := te_qfac (A := A) n
    refine ⟨fun hz hr => ?_, fun hz hr => ?_⟩
    · rw [qfac.eq_2] at hr
      exact t_X14_factor (dk := 20 + 7 * n + 5) (dj := 20 + 7 * n) (fun hz hr => t_X14_expression (dk := 20 + 7 * n) (fun hz hr => i1 hz hr) (by omega) hz hr) (fun hz hr => i1 hz hr) (by omega) (by omega) hz hr
    · rw [qfac.eq_2] at hr
      exact e_X14_factor (dk := 20 + 7 * n + 5) (dj := 20 + 7 * n) (fun hz hr => t_X14_expression (dk := 20 + 7 * n) (fun hz hr => i1 hz hr) (by omega) hz hr) (fun hz hr => e_X14_expression (dk := 20 + 7 * n) (fun hz hr => i1 hz hr) (fun hz hr => i2 hz hr) (by omega) hz hr) (fun hz hr => i1 hz hr) (fun hz hr => i2 hz hr) (by omega) (by omega) hz hr
noncomputable def fX14_expression' (z : Zs) : Option (Except (Int32 × Int32) Unit × Zs) := fX14_expression (qfac 10) z
theorem t_X14_expression' {A : Nat → Nat → Nat → Nat} {h : Hp} {σ ρ ρ' : Zs} {v : Unit} (hz : Rp A h σ ρ) (hr : fX14_expression' ρ = some (.ok v, ρ')) : ∀ l : Launch, Sp l mX14_expression 95 0 0 [.ref (A 14 0 0)] h (QV A v σ ρ') X0 := t_X14_expression (dk := 90) (fun hz hr => (te_qfac 10).1 hz hr) (by decide) hz hr
theorem e_X14_expression' {A : Nat → Nat → Nat → Nat} {h : Hp} {σ ρ ρ' : Zs} {v : Int32 × Int32} (hz : Rp A h σ ρ) (hr : fX14_expression' ρ = some (.error v, ρ')) : ∀ l : Launch, Sp l mX14_expression 95 1 8 [.ref (A 14 0 0)] h QF (XW A v σ ρ') := e_X14_expression (dk := 90) (fun hz hr => (te_qfac 10).1 hz hr) (fun hz hr => (te_qfac 10).2 hz hr) (by decide) hz hr
def wv (j : Nat) : Int32 := [3, 5, 7, 8, 9, 12, 14].getD j 0
def wkj : Nat → Int32 → Int32
  | 0, _ => -1
  | j + 1, k => if wv j = k then nI j else wkj j k
theorem l_work {x : Cxt} {A : Nat → Nat → Nat → Nat} {k pl s1 : Int32} {q kc ks : Nat} {h : Hp} (hk : m_K h q = 20) (hn : m_N h q = 7) (hx : ∀ j, j < 7 → m_X h q j = wv j) (kk : wp x mX14_work 93 [(0, .ref (A 14 0 0)), (1, .int s1), (2, .int k), (3, .int pl), (5, .int (wkj 7 k))] [] h kc ks) : ∀ (n j : Nat), j + n = 7 → wp x mX14_work 66 [(0, .ref (A 14 0 0)), (1, .int s1), (2, .int k), (3, .int pl), (4, .ref q), (5, .int (wkj j k)), (6, .int (nI j))] [] h kc ks
  | 0, j => fun e => by
    obtain rfl : j = 7 := by omega
    refine w_iload 6 dX14_work_66 rfl rfl ?_
    refine w_aload 4 dX14_work_68 rfl rfl ?_
    refine w_alen 0 dX14_work_70 rfl (by decide) (by decide) (fun _ => rfl) hk (v := 7) (by rw [hn]; rfl) ?_
    refine w_icmp_ge 93 dX14_work_71 rfl rfl (fun q1 => ?_) (fun q1 => ?_)
    · exact w_lv [(0, .ref (A 14 0 0)), (1, .int s1), (2, .int k), (3, .int pl), (5, .int (wkj 7 k))] [0, 1, 2, 3, 5] rfl kk
    · exact absurd (by decide) q1
  | n + 1, j => fun e => by
    have ih := l_work hk hn hx kk n (j + 1) (by omega)
    refine w_iload 6 dX14_work_66 rfl rfl ?_
    refine w_aload 4 dX14_work_68 rfl rfl ?_
    refine w_alen 0 dX14_work_70 rfl (by decide) (by decide) (fun _ => rfl) hk (v := 7) (by rw [hn]; rfl) ?_
    refine w_icmp_ge 93 dX14_work_71 rfl rfl (fun q1 => ?_) (fun q1 => ?_)
    · exfalso
      have := b_le (a := 7) (b := j) (by omega) (by omega) q1
      omega
    · refine w_aload 4 dX14_work_74 rfl rfl ?_
      refine w_iload 6 dX14_work_76 rfl rfl ?_
      refine w_iald dX14_work_78 rfl hk (by rw [hn]; exact vp_in_nI (by omega) (by omega)) (v := wv j) (by rw [show (nI j).toNatClampNeg = j from i_cl (by omega)]; exact hx j (by omega)) ?_
      refine w_iload_n 2 dX14_work_79 rfl rfl rfl ?_
      refine w_icmp_ne 87 dX14_work_80 rfl rfl (fun q2 => ?_) (fun q2 => ?_)
      · refine w_iinc 6 (nI (j + 1)) [(6, .int (nI (j + 1))), (0, .ref (A 14 0 0)), (1, .int s1), (2, .int k), (3, .int pl), (4, .ref q), (5, .int (wkj j k))] dX14_work_87 rfl rfl (nI_1 j) (by decide) rfl ?_
        refine w_goto 66 dX14_work_90 rfl ?_
        rw [show wkj j k = wkj (j + 1) k from (if_neg q2).symm]
        exact w_lv [(0, .ref (A 14 0 0)), (1, .int s1), (2, .int k), (3, .int pl), (4, .ref q), (5, .int (wkj (j + 1) k)), (6, .int (nI (j + 1)))] [1, 2, 3, 4, 5, 6, 0] rfl ih
      · refine w_iload 6 dX14_work_83 rfl rfl ?_
        refine w_istore [(5, .int (nI j)), (0, .ref (A 14 0 0)), (1, .int s1), (2, .int k), (3, .int pl), (4, .ref q), (6, .int (nI j))] dX14_work_85 rfl (by decide) rfl ?_
        refine w_iinc 6 (nI (j + 1)) [(6, .int (nI (j + 1))), (5, .int (nI j)), (0, .ref (A 14 0 0)), (1, .int s1), (2, .int k), (3, .int pl), (4, .ref q)] dX14_work_87 rfl rfl (nI_1 j) (by decide) rfl ?_
        refine w_goto 66 dX14_work_90 rfl ?_
        rw [show (nI j) = wkj (j + 1) k from (if_pos q2).symm]
        exact w_lv [(0, .ref (A 14 0 0)), (1, .int s1), (2, .int k), (3, .int pl), (4, .ref q), (5, .int (wkj (j + 1) k)), (6, .int (nI (j + 1)))] [2, 3, 4, 5, 6, 1, 0] rfl ih
theorem works_row {x : Cxt} {A : Nat → Nat → Nat → Nat} {σ ρ : Zs} {k pl s1 : Int32} {kc ks dd Mc Ms : Nat} {h : Hp} (hrm : m_rm dd Mc Ms x) (hz : Rp A h σ ρ) (hmc : kc + 1 ≤ Mc) (hms : ks + 7 ≤ Ms) (kk : ∀ h' : Hp, Rp A h' σ ρ → wp x mX14_work 93 [(0, .ref (A 14 0 0)), (1, .int s1), (2, .int k), (3, .int pl), (5, .int (wkj 7 k))] [] h' (kc + 1) (ks + 7)) : wp x mX14_work 20 [(3, .int pl), (2, .int k), (0, .ref (A 14 0 0)), (1, .int s1)] [] h kc ks := by
  refine w_bipush 7 dX14_work_20 rfl rfl ?_
  refine w_newI (n := 7) hrm dX14_work_22 rfl a_int (by decide) rfl (by decide) hmc hms (fun q hq => ?_)
  have hg := hz.fg hq
  have hz := hz.newA (c := 20) (n := 7) hq
  have hk : m_K (n_A h q 20 7) q = 20 := va_up_self _ _ _
  have hn : m_N (n_A h q 20 7) q = 7 := va_up_self _ _ _
  refine w_dup dX14_work_24 rfl rfl ?_
  refine w_iconst 0 dX14_work_25 rfl rfl ?_
  refine w_iconst 3 dX14_work_26 rfl rfl ?_
  refine w_iast dX14_work_27 rfl hk (gin hn (by decide)) ?_
  have hz := hz.fX (i := 0) (v := 3) hg
  refine w_dup dX14_work_28 rfl rfl ?_
  refine w_iconst 1 dX14_work_29 rfl rfl ?_
  refine w_iconst 5 dX14_work_30 rfl rfl ?_
  refine w_iast dX14_work_31 rfl hk (gin hn (by decide)) ?_
  have hz := hz.fX (i := 1) (v := 5) hg
  refine w_dup dX14_work_32 rfl rfl ?_
  refine w_iconst 2 dX14_work_33 rfl rfl ?_
  refine w_bipush 7 dX14_work_34 rfl rfl ?_
  refine w_iast dX14_work_36 rfl hk (gin hn (by decide)) ?_
  have hz := hz.fX (i := 2) (v := 7) hg
  refine w_dup dX14_work_37 rfl rfl ?_
  refine w_iconst 3 dX14_work_38 rfl rfl ?_
  refine w_bipush 8 dX14_work_39 rfl rfl ?_
  refine w_iast dX14_work_41 rfl hk (gin hn (by decide)) ?_
  have hz := hz.fX (i := 3) (v := 8) hg
  refine w_dup dX14_work_42 rfl rfl ?_
  refine w_iconst 4 dX14_work_43 rfl rfl ?_
  refine w_bipush 9 dX14_work_44 rfl rfl ?_
  refine w_iast dX14_work_46 rfl hk (gin hn (by decide)) ?_
  have hz := hz.fX (i := 4) (v := 9) hg
  refine w_dup dX14_work_47 rfl rfl ?_
  refine w_iconst 5 dX14_work_48 rfl rfl ?_
  refine w_bipush 12 dX14_work_49 rfl rfl ?_
  refine w_iast dX14_work_51 rfl hk (gin hn (by decide)) ?_
  have hz := hz.fX (i := 5) (v := 12) hg
  refine w_dup dX14_work_52 rfl rfl ?_
  refine w_bipush 6 dX14_work_53 rfl rfl ?_
  refine w_bipush 14 dX14_work_55 rfl rfl ?_
  refine w_iast dX14_work_57 rfl hk (gin hn (by decide)) ?_
  have hz := hz.fX (i := 6) (v := 14) hg
  refine w_astore [(4, .ref q), (3, .int pl), (2, .int k), (0, .ref (A 14 0 0)), (1, .int s1)] dX14_work_58 rfl (by decide) rfl ?_
  refine w_iconst (-1) dX14_work_60 rfl rfl ?_
  refine w_istore [(5, .int (-1)), (4, .ref q), (3, .int pl), (2, .int k), (0, .ref (A 14 0 0)), (1, .int s1)] dX14_work_61 rfl (by decide) rfl ?_
  refine w_iconst 0 dX14_work_63 rfl rfl ?_
  refine w_istore [(6, .int 0), (5, .int (-1)), (4, .ref q), (3, .int pl), (2, .int k), (0, .ref (A 14 0 0)), (1, .int s1)] dX14_work_64 rfl (by decide) rfl ?_
  refine w_lv [(0, .ref (A 14 0 0)), (1, .int s1), (2, .int k), (3, .int pl), (4, .ref q), (5, .int (-1)), (6, .int 0)] [5, 6, 4, 3, 2, 1, 0] rfl ?_
  refine l_work ?_ ?_ (fun j hj => ?_) (kk _ hz) 7 0 rfl
  · exact hk
  · exact hn
  rcases j with _ | _ | _ | _ | _ | _ | _ | j <;> first | omega | (simp [g_XX, wv] ; try decide)
noncomputable def fX14_whole  (ρ : Zs) : Option (Except (Int32 × Int32) (Int32) × Zs) :=
  if (zR ρ 909 0 0 0).2 = 0 then lt (sI ρ 908 0 0 0 60) fun ρ3 => bw (fX14_expression'  ρ3) fun w9 ρ6 => lt (sI ρ6 908 0 0 0 (-1)) fun ρ10 => bq (fX14_emit 50 0 ρ10) fun v12 ρ13 => some (.ok (zI ρ 785 ((zR ρ 909 0 0 0).1) 0 0), ρ13) else none

noncomputable def fX14_streamNamed_39   (z0 : Int32) (ρ : Zs) : Option (Except (Int32 × Int32) (Int32) × Zs) :=
  if z0 = (-1) then (if gi (zI ρ 905 0 0 0) 1501 then bw (fX14_must 0 2 (zI ρ 1927 0 0 (Int32.toNatClampNeg (zI ρ 905 0 0 0))) ρ) fun w10 ρ7 => bw (fX14_take  ρ7) fun w15 ρ12 => some (.ok z0, ρ12) else none) else (if gi (zI ρ 905 0 0 0) 1501 then bw (fX14_must 1 2 (zI ρ 1927 0 0 (Int32.toNatClampNeg (zI ρ 905 0 0 0))) ρ) fun w21 ρ18 => bw (fX14_take  ρ18) fun w26 ρ23 => some (.ok z0, ρ23) else none)
noncomputable def fX14_streamNamed  (ρ : Zs) : Option (Except (Int32 × Int32) (Int32) × Zs) :=
  bq (fX14_is 200 ρ) fun v1 ρ2 => if v1 = 0 then (bq (fX14_wrong ρ2) fun w32 ρ33 => some (.error w32, ρ33)) else (if (zI ρ2 906 0 0 0) = 0 then (fX14_streamNamed_39   0 ρ2) else (if gi (zI ρ2 905 0 0 0) 1501 then bq (fX14_streamOf (zJ ρ2 1928 0 0 (Int32.toNatClampNeg (zI ρ2 905 0 0 0))) ρ2) fun v28 ρ29 => fX14_streamNamed_39   v28 ρ29 else none))

noncomputable def fX14_columnNamed_40 (x1 : Int32)  (z0 : Int32) (ρ : Zs) : Option (Except (Int32 × Int32) (Int32) × Zs) :=
  if z0 = (-1) then (if gi (zI ρ 905 0 0 0) 1501 then bw (fX14_must 0 2 (zI ρ 1927 0 0 (Int32.toNatClampNeg (zI ρ 905 0 0 0))) ρ) fun w10 ρ7 => bw (fX14_take  ρ7) fun w15 ρ12 => some (.ok z0, ρ12) else none) else (if gi (zI ρ 905 0 0 0) 1501 then bw (fX14_must 1 2 (zI ρ 1927 0 0 (Int32.toNatClampNeg (zI ρ 905 0 0 0))) ρ) fun w21 ρ18 => bw (fX14_take  ρ18) fun w26 ρ23 => some (.ok z0, ρ23) else none)
noncomputable def fX14_columnNamed (x1 : Int32) (ρ : Zs) : Option (Except (Int32 × Int32) (Int32) × Zs) :=
  bq (fX14_is 200 ρ) fun v1 ρ2 => if v1 = 0 then (bq (fX14_wrong ρ2) fun w32 ρ33 => some (.error w32, ρ33)) else (if (zI ρ2 906 0 0 0) = 0 then (fX14_columnNamed_40 x1  0 ρ2) else (if gi (zI ρ2 905 0 0 0) 1501 then bq (fX14_columnOf x1 (zJ ρ2 1928 0 0 (Int32.toNatClampNeg (zI ρ2 905 0 0 0))) ρ2) fun v28 ρ29 => fX14_columnNamed_40 x1  v28 ρ29 else none))

noncomputable def fX14_numberIn (x1 : Int32) (ρ : Zs) : Option (Except (Int32 × Int32) (Int32) × Zs) :=
  bq (fX14_is 201 ρ) fun v1 ρ2 => if v1 = 0 then (bq (fX14_wrong ρ2) fun w21 ρ22 => some (.error w21, ρ22)) else (if gi (zI ρ2 905 0 0 0) 1501 then bq (fX14_isIn (zJ ρ2 1928 0 0 (Int32.toNatClampNeg (zI ρ2 905 0 0 0))) ((x1 : Int32).toInt64) 1000 ρ2) fun v6 ρ7 => if gi (zI ρ7 905 0 0 0) 1501 then bw (fX14_must v6 6 (zI ρ7 1927 0 0 (Int32.toNatClampNeg (zI ρ7 905 0 0 0))) ρ7) fun w15 ρ12 => bw (fX14_take  ρ12) fun w20 ρ17 => some (.ok (((p_lmin (zJ ρ2 1928 0 0 (Int32.toNatClampNeg (zI ρ2 905 0 0 0))) 1000) : Int64).toInt32), ρ17) else none else none)

noncomputable def fX14_newColumn  (ρ : Zs) : Option (Except (Int32 × Int32) (Int64) × Zs) :=
  bq (fX14_is 200 ρ) fun v1 ρ2 => if v1 = 0 then (bq (fX14_wrong ρ2) fun w32 ρ33 => some (.error w32, ρ33)) else (if gi (zI ρ2 905 0 0 0) 1501 then bq (fX14_indexOf 1936 0 0 1500 0 (zI ρ2 911 0 0 0) (zJ ρ2 1928 0 0 (Int32.toNatClampNeg (zI ρ2 905 0 0 0))) ρ2) fun v6 ρ7 => if v6 = (-1) then (if gi (zI ρ7 905 0 0 0) 1501 then bw (fX14_must 1 5 (zI ρ7 1927 0 0 (Int32.toNatClampNeg (zI ρ7 905 0 0 0))) ρ7) fun w26 ρ23 => bw (fX14_take  ρ23) fun w31 ρ28 => some (.ok (zJ ρ2 1928 0 0 (Int32.toNatClampNeg (zI ρ2 905 0 0 0))), ρ28) else none) else (if gi (zI ρ7 905 0 0 0) 1501 then bw (fX14_must 0 5 (zI ρ7 1927 0 0 (Int32.toNatClampNeg (zI ρ7 905 0 0 0))) ρ7) fun w15 ρ12 => bw (fX14_take  ρ12) fun w20 ρ17 => some (.ok (zJ ρ2 1928 0 0 (Int32.toNatClampNeg (zI ρ2 905 0 0 0))), ρ17) else none) else none)

noncomputable def fX14_makeOne  (ρ : Zs) : Option (Except (Int32 × Int32) (Unit) × Zs) :=
  bw (fX14_newColumn  ρ) fun w5 ρ2 => bw (fX14_take_ 104 ρ2) fun w10 ρ7 => bw (fX14_whole  ρ7) fun w15 ρ12 => bq (fX14_say w5 w15 1 ρ12) fun v16 ρ17 => some (.ok (), ρ17)

noncomputable def fX14_pickOne_52 (x1 : Int32)  (y2 : Int32) (z0 : Int32) (ρ : Zs) : Option (Except (Int32 × Int32) (Unit) × Zs) :=
  if gi (zI ρ 905 0 0 0) 1501 then bw (fX14_must z0 2 (zI ρ 1927 0 0 (Int32.toNatClampNeg (zI ρ 905 0 0 0))) ρ) fun w10 ρ7 => bw (fX14_newColumn  ρ7) fun w15 ρ12 => bq (fX14_say w15 y2 0 ρ12) fun v16 ρ17 => some (.ok (), ρ17) else none
noncomputable def fX14_pickOne (x1 : Int32) (ρ : Zs) : Option (Except (Int32 × Int32) (Unit) × Zs) :=
  bq (fX14_is 200 ρ) fun v1 ρ2 => if v1 = 0 then (bq (fX14_wrong ρ2) fun w25 ρ26 => some (.error w25, ρ26)) else (if (zI ρ2 906 0 0 0) = 0 then (if (0 : Int32) = (-1) then (fX14_pickOne_52 x1  0 0 ρ2) else (fX14_pickOne_52 x1  0 1 ρ2)) else (if gi (zI ρ2 905 0 0 0) 1501 then bq (fX14_columnOf x1 (zJ ρ2 1928 0 0 (Int32.toNatClampNeg (zI ρ2 905 0 0 0))) ρ2) fun v21 ρ22 => if v21 = (-1) then (fX14_pickOne_52 x1  v21 0 ρ22) else (fX14_pickOne_52 x1  v21 1 ρ22) else none))

noncomputable def fX14_join_218 (x1 : Int32) (x2 : Int32)  : Nat → Int32 → Int32 → Int32 → Zs → Option (Except (Int32 × Int32) (Unit) × Zs)
  | 0, _, _, _, _ => none
  | n + 1, y3, y7, y8, ρ =>
    if (zI ρ 911 0 0 0) ≤ y8 then (some (.ok (), ρ)) else (if gi y8 1500 then bq (fX14_indexOf 1936 0 0 1500 0 y7 (zJ ρ 1936 0 0 (Int32.toNatClampNeg y8)) ρ) fun v71 ρ72 => if v71 = (-1) then (bw (fX14_must 1 5 y3 ρ72) fun w84 ρ81 => fX14_join_218 x1 x2  n y3 y7 (y8 + 1) ρ81) else (bw (fX14_must 0 5 y3 ρ72) fun w79 ρ76 => fX14_join_218 x1 x2  n y3 y7 (y8 + 1) ρ76) else none)
noncomputable def fX14_join_116 (x1 : Int32) (x2 : Int32)  (y3 : Int32) (y4 : Int32) (y5 : Int32) (y6 : Int32) (z0 : Int32) (ρ : Zs) : Option (Except (Int32 × Int32) (Unit) × Zs) :=
  if gi (zI ρ 905 0 0 0) 1501 then bw (fX14_must z0 2 (zI ρ 1927 0 0 (Int32.toNatClampNeg (zI ρ 905 0 0 0))) ρ) fun w26 ρ23 => bw (fX14_take  ρ23) fun w31 ρ28 => bw (fX14_take_ 11 ρ28) fun w36 ρ33 => if (zR ρ33 909 0 0 0).2 = 0 then if gi x1 12 then lt (sI ρ33 1798 ((zR ρ33 909 0 0 0).1) 0 (Int32.toNatClampNeg x1) y4) fun ρ40 => if (zR ρ40 909 0 0 0).2 = 0 then if gi x1 12 then lt (sI ρ40 1801 ((zR ρ40 909 0 0 0).1) 0 (Int32.toNatClampNeg x1) y5) fun ρ45 => if (zR ρ45 909 0 0 0).2 = 0 then if gi x1 12 then lt (sI ρ45 1802 ((zR ρ45 909 0 0 0).1) 0 (Int32.toNatClampNeg x1) y6) fun ρ50 => if (zR ρ50 909 0 0 0).2 = 0 then bw (fX14_numberIn 0 ρ50) fun w58 ρ55 => if gi x1 12 then lt (sI ρ55 1799 ((zR ρ50 909 0 0 0).1) 0 (Int32.toNatClampNeg x1) w58) fun ρ60 => if (zI ρ60 906 0 0 0) = 0 then (some (.ok (), ρ60)) else (bq (fX14_sayAll x2 (-1) ρ60) fun v62 ρ63 => bq (fX14_sayAll y4 y6 ρ63) fun v66 ρ67 => fX14_join_218 x1 x2  FU y3 (zI ρ63 911 0 0 0) (zI ρ63 911 0 0 0) ρ67) else none else none else none else none else none else none else none else none else none
noncomputable def fX14_join_68 (x1 : Int32) (x2 : Int32)  (y3 : Int32) (y4 : Int32) (z0 : Int32) (ρ : Zs) : Option (Except (Int32 × Int32) (Unit) × Zs) :=
  if (zI ρ 906 0 0 0) = 0 then (if z0 = (-1) then (fX14_join_116 x1 x2  y3 y4 z0 0 0 ρ) else (if (0 : Int32) = (-1) then (fX14_join_116 x1 x2  y3 y4 z0 0 0 ρ) else (fX14_join_116 x1 x2  y3 y4 z0 0 1 ρ))) else (if gi (zI ρ 905 0 0 0) 1501 then bq (fX14_columnOf y4 (zJ ρ 1928 0 0 (Int32.toNatClampNeg (zI ρ 905 0 0 0))) ρ) fun v86 ρ87 => if z0 = (-1) then (fX14_join_116 x1 x2  y3 y4 z0 v86 0 ρ87) else (if v86 = (-1) then (fX14_join_116 x1 x2  y3 y4 z0 v86 0 ρ87) else (fX14_join_116 x1 x2  y3 y4 z0 v86 1 ρ87)) else none)
noncomputable def fX14_join (x1 : Int32) (x2 : Int32) (ρ : Zs) : Option (Except (Int32 × Int32) (Unit) × Zs) :=
  bw (fX14_take_ 102 ρ) fun w5 ρ2 => if gi (zI ρ2 905 0 0 0) 1501 then bw (fX14_streamNamed  ρ2) fun w11 ρ8 => bw (fX14_take_ 10 ρ8) fun w16 ρ13 => bq (fX14_is 200 ρ13) fun v17 ρ18 => if v17 = 0 then (bq (fX14_wrong ρ18) fun w95 ρ96 => some (.error w95, ρ96)) else (if (zI ρ18 906 0 0 0) = 0 then (fX14_join_68 x1 x2  (zI ρ2 1927 0 0 (Int32.toNatClampNeg (zI ρ2 905 0 0 0))) w11 0 ρ18) else (if gi (zI ρ18 905 0 0 0) 1501 then bq (fX14_columnOf x2 (zJ ρ18 1928 0 0 (Int32.toNatClampNeg (zI ρ18 905 0 0 0))) ρ18) fun v91 ρ92 => fX14_join_68 x1 x2  (zI ρ2 1927 0 0 (Int32.toNatClampNeg (zI ρ2 905 0 0 0))) w11 v91 ρ92 else none)) else none

noncomputable def fX14_totalOne  (ρ : Zs) : Option (Except (Int32 × Int32) (Unit) × Zs) :=
  bw (fX14_newColumn  ρ) fun w5 ρ2 => bw (fX14_take_ 104 ρ2) fun w10 ρ7 => if gi (zI ρ7 905 0 0 0) 1501 then bq (fX14_isIn (((zI ρ7 1926 0 0 (Int32.toNatClampNeg (zI ρ7 905 0 0 0))) : Int32).toInt64) 22 26 ρ7) fun v12 ρ13 => if v12 = 0 then (bq (fX14_wrong ρ13) fun w34 ρ35 => some (.error w34, ρ35)) else (bw (fX14_take  ρ13) fun w20 ρ17 => if (zI ρ7 1926 0 0 (Int32.toNatClampNeg (zI ρ7 905 0 0 0))) = 23 then (bq (fX14_say w5 0 (zI ρ7 1926 0 0 (Int32.toNatClampNeg (zI ρ7 905 0 0 0))) ρ17) fun v30 ρ31 => some (.ok (), ρ31)) else (bw (fX14_whole  ρ17) fun w25 ρ22 => bq (fX14_say w5 w25 (zI ρ7 1926 0 0 (Int32.toNatClampNeg (zI ρ7 905 0 0 0))) ρ22) fun v26 ρ27 => some (.ok (), ρ27))) else none

noncomputable def fX14_window_145 (x1 : Int32) (x2 : Int32)  : Nat → Zs → Option (Except (Int32 × Int32) (Unit) × Zs)
  | 0, _ => none
  | n + 1, ρ =>
    bq (fX14_is 102 ρ) fun v65 ρ66 => if v65 = 0 then (bw (fX14_take_ 101 ρ66) fun w73 ρ70 => some (.ok (), ρ70)) else (bw (fX14_take  ρ66) fun w78 ρ75 => bw (fX14_totalOne  ρ75) fun w83 ρ80 => fX14_window_145 x1 x2  n  ρ80)
noncomputable def fX14_window_118 (x1 : Int32) (x2 : Int32)  (y4 : Int64) (ρ : Zs) : Option (Except (Int32 × Int32) (Unit) × Zs) :=
  bq (fX14_say y4 0 0 ρ) fun v47 ρ48 => bq (fX14_say 422608071022 0 0 ρ48) fun v51 ρ52 => bw (fX14_take_ 100 ρ52) fun w59 ρ56 => bw (fX14_totalOne  ρ56) fun w64 ρ61 => fX14_window_145 x1 x2  FU  ρ61
noncomputable def fX14_window_56 (x1 : Int32) (x2 : Int32)  (y3 : Int32) (y4 : Int64) (z0 : Int32) (ρ : Zs) : Option (Except (Int32 × Int32) (Unit) × Zs) :=
  bw (fX14_must z0 5 y3 ρ) fun w22 ρ19 => bw (fX14_take_ 15 ρ19) fun w27 ρ24 => if (zR ρ24 909 0 0 0).2 = 0 then bw (fX14_numberIn 1 ρ24) fun w34 ρ31 => if gi x1 12 then lt (sI ρ31 1799 ((zR ρ24 909 0 0 0).1) 0 (Int32.toNatClampNeg x1) w34) fun ρ36 => if (zR ρ36 909 0 0 0).2 = 0 then if gi x1 12 then lt (sI ρ36 1800 ((zR ρ36 909 0 0 0).1) 0 (Int32.toNatClampNeg x1) 0) fun ρ41 => bq (fX14_is 16 ρ41) fun v43 ρ44 => if v43 = 0 then (fX14_window_118 x1 x2  y4 ρ44) else (bw (fX14_take  ρ44) fun w88 ρ85 => if (zR ρ85 909 0 0 0).2 = 0 then bw (fX14_numberIn 0 ρ85) fun w95 ρ92 => if gi x1 12 then lt (sI ρ92 1800 ((zR ρ85 909 0 0 0).1) 0 (Int32.toNatClampNeg x1) w95) fun ρ97 => fX14_window_118 x1 x2  y4 ρ97 else none else none) else none else none else none else none
noncomputable def fX14_window (x1 : Int32) (x2 : Int32) (ρ : Zs) : Option (Except (Int32 × Int32) (Unit) × Zs) :=
  bw (fX14_take_ 13 ρ) fun w5 ρ2 => if gi (zI ρ2 905 0 0 0) 1501 then if gi (zI ρ2 905 0 0 0) 1501 then if (zR ρ2 909 0 0 0).2 = 0 then bw (fX14_columnNamed x2 ρ2) fun w14 ρ11 => if gi x1 12 then lt (sI ρ11 1801 ((zR ρ2 909 0 0 0).1) 0 (Int32.toNatClampNeg x1) w14) fun ρ16 => if ((lg_cmp (zJ ρ2 1928 0 0 (Int32.toNatClampNeg (zI ρ2 905 0 0 0))) 422608071022) : Int32) = 0 then (fX14_window_56 x1 x2  (zI ρ2 1927 0 0 (Int32.toNatClampNeg (zI ρ2 905 0 0 0))) (zJ ρ2 1928 0 0 (Int32.toNatClampNeg (zI ρ2 905 0 0 0))) 0 ρ16) else (fX14_window_56 x1 x2  (zI ρ2 1927 0 0 (Int32.toNatClampNeg (zI ρ2 905 0 0 0))) (zJ ρ2 1928 0 0 (Int32.toNatClampNeg (zI ρ2 905 0 0 0))) 1 ρ16) else none else none else none else none

noncomputable def fX14_source_16 (x1 : Int32)  : Nat → Zs → Option (Except (Int32 × Int32) (Unit) × Zs)
  | 0, _ => none
  | n + 1, ρ =>
    bq (fX14_is 102 ρ) fun v15 ρ16 => if v15 = 0 then (bw (fX14_take_ 101 ρ16) fun w23 ρ20 => if (zR ρ20 909 0 0 0).2 = 0 then if gi x1 12 then lt (sI ρ20 1794 ((zR ρ20 909 0 0 0).1) 0 (Int32.toNatClampNeg x1) 0) fun ρ27 => if (zR ρ27 909 0 0 0).2 = 0 then if gi x1 12 then lt (sI ρ27 1799 ((zR ρ27 909 0 0 0).1) 0 (Int32.toNatClampNeg x1) 0) fun ρ32 => bq (fX14_is 1 ρ32) fun v34 ρ35 => if v34 = 0 then (some (.ok (), ρ35)) else (bw (fX14_take  ρ35) fun w42 ρ39 => if (zR ρ39 909 0 0 0).2 = 0 then bw (fX14_numberIn 0 ρ39) fun w49 ρ46 => if gi x1 12 then lt (sI ρ46 1799 ((zR ρ39 909 0 0 0).1) 0 (Int32.toNatClampNeg x1) w49) fun ρ51 => some (.ok (), ρ51) else none else none) else none else none else none else none) else (bw (fX14_take  ρ16) fun w57 ρ54 => bw (fX14_newColumn  ρ54) fun w62 ρ59 => bq (fX14_say w62 0 0 ρ59) fun v63 ρ64 => fX14_source_16 x1  n  ρ64)
noncomputable def fX14_source (x1 : Int32) (ρ : Zs) : Option (Except (Int32 × Int32) (Unit) × Zs) :=
  bw (fX14_take_ 100 ρ) fun w5 ρ2 => bw (fX14_newColumn  ρ2) fun w10 ρ7 => bq (fX14_say w10 0 0 ρ7) fun v11 ρ12 => fX14_source_16 x1  FU  ρ12

noncomputable def fX14_check_22 (x1 : Int32)  (z0 : Int32) (ρ : Zs) : Option (Except (Int32 × Int32) (Unit) × Zs) :=
  bw (fX14_must z0 4 x1 ρ) fun w12 ρ9 => bw (fX14_streamNamed  ρ9) fun w17 ρ14 => bw (fX14_take_ 103 ρ14) fun w22 ρ19 => lt (sI ρ19 910 0 0 0 w17) fun ρ23 => bw (fX14_whole  ρ23) fun w29 ρ26 => bw (fX14_take_ 18 ρ26) fun w34 ρ31 => if gi (zI ρ31 905 0 0 0) 1501 then bq (fX14_isIn (((zI ρ31 1926 0 0 (Int32.toNatClampNeg (zI ρ31 905 0 0 0))) : Int32).toInt64) 19 21 ρ31) fun v36 ρ37 => if v36 = 0 then (bq (fX14_wrong ρ37) fun w71 ρ72 => some (.error w71, ρ72)) else (if gi (zI ρ37 905 0 0 0) 1501 then bw (fX14_take  ρ37) fun w45 ρ42 => if (zI ρ42 906 0 0 0) = 0 then (some (.ok (), ρ42)) else (if (zR ρ42 909 0 0 0).2 = 0 then if (zR ρ42 909 0 0 0).2 = 0 then if gi (zI ρ42 781 ((zR ρ42 909 0 0 0).1) 0 0) 8 then lt (sI ρ42 1806 ((zR ρ42 909 0 0 0).1) 0 (Int32.toNatClampNeg (zI ρ42 781 ((zR ρ42 909 0 0 0).1) 0 0)) w17) fun ρ51 => if (zR ρ51 909 0 0 0).2 = 0 then if (zR ρ51 909 0 0 0).2 = 0 then if gi (zI ρ51 781 ((zR ρ51 909 0 0 0).1) 0 0) 8 then lt (sI ρ51 1807 ((zR ρ51 909 0 0 0).1) 0 (Int32.toNatClampNeg (zI ρ51 781 ((zR ρ51 909 0 0 0).1) 0 0)) w29) fun ρ58 => if (zR ρ58 909 0 0 0).2 = 0 then if (zR ρ58 909 0 0 0).2 = 0 then if gi (zI ρ58 781 ((zR ρ58 909 0 0 0).1) 0 0) 8 then lt (sI ρ58 1808 ((zR ρ58 909 0 0 0).1) 0 (Int32.toNatClampNeg (zI ρ58 781 ((zR ρ58 909 0 0 0).1) 0 0)) (zI ρ37 1926 0 0 (Int32.toNatClampNeg (zI ρ37 905 0 0 0)))) fun ρ65 => if (zR ρ65 909 0 0 0).2 = 0 then lt (sI ρ65 781 ((zR ρ65 909 0 0 0).1) 0 0 ((zI ρ65 781 ((zR ρ65 909 0 0 0).1) 0 0) + 1)) fun ρ69 => some (.ok (), ρ69) else none else none else none else none else none else none else none else none else none else none) else none) else none
noncomputable def fX14_check (x1 : Int32) (ρ : Zs) : Option (Except (Int32 × Int32) (Unit) × Zs) :=
  bw (fX14_take  ρ) fun w5 ρ2 => if (zR ρ2 909 0 0 0).2 = 0 then if 8 ≤ (zI ρ2 781 ((zR ρ2 909 0 0 0).1) 0 0) then (fX14_check_22 x1  0 ρ2) else (fX14_check_22 x1  1 ρ2) else none

noncomputable def fX14_work_333 (x1 : Int32)  : Nat → Int32 → Int32 → Int32 → Int32 → Zs → Option (Except (Int32 × Int32) (Unit) × Zs)
  | 0, _, _, _, _, _ => none
  | n + 1, y3, y6, y7, y8, ρ =>
    if (zR ρ 909 0 0 0).2 = 0 then if gi y6 12 then if (zI ρ 1795 ((zR ρ 909 0 0 0).1) 0 (Int32.toNatClampNeg y6)) ≤ y8 then (bw (fX14_must y7 3 y3 ρ) fun w100 ρ97 => bq (fX14_sayAll y6 (-1) ρ97) fun v101 ρ102 => some (.ok (), ρ102)) else (if y7 = 0 then (bw (fX14_must y7 3 y3 ρ) fun w109 ρ106 => bq (fX14_sayAll y6 (-1) ρ106) fun v110 ρ111 => some (.ok (), ρ111)) else (if (zR ρ 909 0 0 0).2 = 0 then if gi ((6 * y6) + y8) 72 then if (zR ρ 909 0 0 0).2 = 0 then if (zR ρ 909 0 0 0).2 = 0 then if gi x1 12 then if gi ((6 * (zI ρ 1798 ((zR ρ 909 0 0 0).1) 0 (Int32.toNatClampNeg x1))) + y8) 72 then if ((lg_cmp (zJ ρ 1796 ((zR ρ 909 0 0 0).1) 0 (Int32.toNatClampNeg ((6 * y6) + y8))) (zJ ρ 1796 ((zR ρ 909 0 0 0).1) 0 (Int32.toNatClampNeg ((6 * (zI ρ 1798 ((zR ρ 909 0 0 0).1) 0 (Int32.toNatClampNeg x1))) + y8)))) : Int32) = 0 then (fX14_work_333 x1  n y3 y6 1 (y8 + 1) ρ) else (fX14_work_333 x1  n y3 y6 0 (y8 + 1) ρ) else none else none else none else none else none else none)) else none else none
noncomputable def fX14_work_237 (x1 : Int32)  : Nat → Int32 → Zs → Option (Except (Int32 × Int32) (Unit) × Zs)
  | 0, _, _ => none
  | n + 1, y6, ρ =>
    bq (fX14_is 102 ρ) fun v133 ρ134 => if v133 = 0 then (bw (fX14_take_ 101 ρ134) fun w141 ρ138 => some (.ok (), ρ138)) else (bw (fX14_take  ρ134) fun w146 ρ143 => bw (fX14_pickOne y6 ρ143) fun w151 ρ148 => fX14_work_237 x1  n y6 ρ148)
noncomputable def fX14_work_199 (x1 : Int32)  : Nat → Zs → Option (Except (Int32 × Int32) (Unit) × Zs)
  | 0, _ => none
  | n + 1, ρ =>
    bq (fX14_is 102 ρ) fun v166 ρ167 => if v166 = 0 then (some (.ok (), ρ167)) else (bw (fX14_take  ρ167) fun w174 ρ171 => bw (fX14_makeOne  ρ171) fun w179 ρ176 => fX14_work_199 x1  n  ρ176)
noncomputable def fX14_work (x1 : Int32) (ρ : Zs) : Option (Except (Int32 × Int32) (Unit) × Zs) :=
  if gi (zI ρ 905 0 0 0) 1501 then if gi (zI ρ 905 0 0 0) 1501 then if ((wkj 7 (zI ρ 1926 0 0 (Int32.toNatClampNeg (zI ρ 905 0 0 0)))) : Int32) = (-1) then (bq (fX14_wrong ρ) fun w199 ρ200 => some (.error w199, ρ200)) else (bw (fX14_take  ρ) fun w7 ρ4 => bw (fX14_streamNamed  ρ4) fun w12 ρ9 => if (zR ρ9 909 0 0 0).2 = 0 then if gi x1 12 then lt (sI ρ9 1794 ((zR ρ9 909 0 0 0).1) 0 (Int32.toNatClampNeg x1) ((wkj 7 (zI ρ 1926 0 0 (Int32.toNatClampNeg (zI ρ 905 0 0 0)))) + 1)) fun ρ16 => if (zR ρ16 909 0 0 0).2 = 0 then if gi x1 12 then lt (sI ρ16 1797 ((zR ρ16 909 0 0 0).1) 0 (Int32.toNatClampNeg x1) w12) fun ρ21 => lt (sI ρ21 910 0 0 0 w12) fun ρ23 => if (zI ρ 1926 0 0 (Int32.toNatClampNeg (zI ρ 905 0 0 0))) = 3 then (bw (fX14_take_ 4 ρ23) fun w184 ρ181 => if (zR ρ181 909 0 0 0).2 = 0 then bw (fX14_whole  ρ181) fun w191 ρ188 => if gi x1 12 then lt (sI ρ188 1799 ((zR ρ181 909 0 0 0).1) 0 (Int32.toNatClampNeg x1) w191) fun ρ193 => bq (fX14_sayAll w12 (-1) ρ193) fun v195 ρ196 => some (.ok (), ρ196) else none else none) else (if (zI ρ 1926 0 0 (Int32.toNatClampNeg (zI ρ 905 0 0 0))) = 5 then (bq (fX14_sayAll w12 (-1) ρ23) fun v152 ρ153 => bw (fX14_take_ 6 ρ153) fun w160 ρ157 => bw (fX14_makeOne  ρ157) fun w165 ρ162 => fX14_work_199 x1  FU  ρ162) else (if (zI ρ 1926 0 0 (Int32.toNatClampNeg (zI ρ 905 0 0 0))) = 7 then (bw (fX14_take_ 100 ρ23) fun w127 ρ124 => bw (fX14_pickOne w12 ρ124) fun w132 ρ129 => fX14_work_237 x1  FU w12 ρ129) else (if (zI ρ 1926 0 0 (Int32.toNatClampNeg (zI ρ 905 0 0 0))) = 8 then (bw (fX14_take_ 102 ρ23) fun w73 ρ70 => if (zR ρ70 909 0 0 0).2 = 0 then bw (fX14_streamNamed  ρ70) fun w80 ρ77 => if gi x1 12 then lt (sI ρ77 1798 ((zR ρ70 909 0 0 0).1) 0 (Int32.toNatClampNeg x1) w80) fun ρ82 => if (zR ρ82 909 0 0 0).2 = 0 then if gi w12 12 then if (zR ρ82 909 0 0 0).2 = 0 then if (zR ρ82 909 0 0 0).2 = 0 then if gi x1 12 then if gi (zI ρ82 1798 ((zR ρ82 909 0 0 0).1) 0 (Int32.toNatClampNeg x1)) 12 then if (zI ρ82 1795 ((zR ρ82 909 0 0 0).1) 0 (Int32.toNatClampNeg w12)) = (zI ρ82 1795 ((zR ρ82 909 0 0 0).1) 0 (Int32.toNatClampNeg (zI ρ82 1798 ((zR ρ82 909 0 0 0).1) 0 (Int32.toNatClampNeg x1)))) then (fX14_work_333 x1  FU (zI ρ 1927 0 0 (Int32.toNatClampNeg (zI ρ 905 0 0 0))) w12 1 0 ρ82) else (fX14_work_333 x1  FU (zI ρ 1927 0 0 (Int32.toNatClampNeg (zI ρ 905 0 0 0))) w12 0 0 ρ82) else none else none else none else none else none else none else none else none) else (if (zI ρ 1926 0 0 (Int32.toNatClampNeg (zI ρ 905 0 0 0))) = 9 then (bw (fX14_join x1 w12 ρ23) fun w68 ρ65 => some (.ok (), ρ65)) else (if (zI ρ 1926 0 0 (Int32.toNatClampNeg (zI ρ 905 0 0 0))) = 12 then (bw (fX14_take_ 13 ρ23) fun w34 ρ31 => if (zR ρ31 909 0 0 0).2 = 0 then bw (fX14_columnNamed w12 ρ31) fun w41 ρ38 => if gi x1 12 then lt (sI ρ38 1801 ((zR ρ31 909 0 0 0).1) 0 (Int32.toNatClampNeg x1) w41) fun ρ43 => bw (fX14_take_ 11 ρ43) fun w49 ρ46 => if (zR ρ46 909 0 0 0).2 = 0 then bw (fX14_numberIn 0 ρ46) fun w56 ρ53 => if gi x1 12 then lt (sI ρ53 1799 ((zR ρ46 909 0 0 0).1) 0 (Int32.toNatClampNeg x1) w56) fun ρ58 => bq (fX14_sayAll w12 (-1) ρ58) fun v60 ρ61 => some (.ok (), ρ61) else none else none else none else none) else (bw (fX14_window x1 w12 ρ23) fun w29 ρ26 => some (.ok (), ρ26))))))) else none else none else none else none) else none else none

noncomputable def fX14_item_263   : Nat → Int32 → Int32 → Zs → Option (Except (Int32 × Int32) (Unit) × Zs)
  | 0, _, _, _ => none
  | n + 1, y6, y7, ρ =>
    if (zI ρ 911 0 0 0) ≤ y7 then (if (zR ρ 909 0 0 0).2 = 0 then lt (sI ρ 768 ((zR ρ 909 0 0 0).1) 0 0 ((zI ρ 768 ((zR ρ 909 0 0 0).1) 0 0) + 1)) fun ρ74 => some (.ok (), ρ74) else none) else (if (zR ρ 909 0 0 0).2 = 0 then if gi y7 1500 then if gi ((6 * y6) + y7) 72 then lt (sJ ρ 1796 ((zR ρ 909 0 0 0).1) 0 (Int32.toNatClampNeg ((6 * y6) + y7)) (zJ ρ 1936 0 0 (Int32.toNatClampNeg y7))) fun ρ80 => if (zR ρ80 909 0 0 0).2 = 0 then if gi y7 1500 then if gi ((6 * y6) + y7) 72 then lt (sI ρ80 1803 ((zR ρ80 909 0 0 0).1) 0 (Int32.toNatClampNeg ((6 * y6) + y7)) (zI ρ80 1937 0 0 (Int32.toNatClampNeg y7))) fun ρ86 => if (zR ρ86 909 0 0 0).2 = 0 then if gi y7 1500 then if gi ((6 * y6) + y7) 72 then lt (sI ρ86 1804 ((zR ρ86 909 0 0 0).1) 0 (Int32.toNatClampNeg ((6 * y6) + y7)) (zI ρ86 1938 0 0 (Int32.toNatClampNeg y7))) fun ρ92 => fX14_item_263   n y6 (y7 + 1) ρ92 else none else none else none else none else none else none else none else none else none)
noncomputable def fX14_item_221   (y3 : Int64) (y5 : Int32) (y6 : Int32) (z0 : Int32) (ρ : Zs) : Option (Except (Int32 × Int32) (Unit) × Zs) :=
  bw (fX14_must z0 4 y5 ρ) fun w61 ρ58 => if (zI ρ58 906 0 0 0) = 0 then (some (.ok (), ρ58)) else (if (zR ρ58 909 0 0 0).2 = 0 then if gi y6 12 then lt (sJ ρ58 1793 ((zR ρ58 909 0 0 0).1) 0 (Int32.toNatClampNeg y6) y3) fun ρ65 => if (zR ρ65 909 0 0 0).2 = 0 then if gi y6 12 then lt (sI ρ65 1795 ((zR ρ65 909 0 0 0).1) 0 (Int32.toNatClampNeg y6) (zI ρ65 911 0 0 0)) fun ρ70 => fX14_item_263   FU y6 0 ρ70 else none else none else none else none)
noncomputable def fX14_item_157   (y1 : Int32) (y3 : Int64) (y5 : Int32) (z0 : Int32) (ρ : Zs) : Option (Except (Int32 × Int32) (Unit) × Zs) :=
  if (zR ρ 909 0 0 0).2 = 0 then if gi z0 12 then lt (sI ρ 1797 ((zR ρ 909 0 0 0).1) 0 (Int32.toNatClampNeg z0) (-1)) fun ρ40 => if (zR ρ40 909 0 0 0).2 = 0 then if gi z0 12 then lt (sI ρ40 1798 ((zR ρ40 909 0 0 0).1) 0 (Int32.toNatClampNeg z0) (-1)) fun ρ45 => if y1 = 0 then (bw (fX14_source z0 ρ45) fun w98 ρ95 => if 6 < (zI ρ95 911 0 0 0) then (fX14_item_221   y3 y5 z0 0 ρ95) else (fX14_item_221   y3 y5 z0 1 ρ95)) else (bw (fX14_take_ 104 ρ45) fun w51 ρ48 => bw (fX14_work z0 ρ48) fun w56 ρ53 => if 6 < (zI ρ53 911 0 0 0) then (fX14_item_221   y3 y5 z0 0 ρ53) else (fX14_item_221   y3 y5 z0 1 ρ53)) else none else none else none else none
noncomputable def fX14_item_124   (y1 : Int32) (y3 : Int64) (y5 : Int32) (z0 : Int32) (ρ : Zs) : Option (Except (Int32 × Int32) (Unit) × Zs) :=
  bw (fX14_must z0 5 y5 ρ) fun w29 ρ26 => bw (fX14_take  ρ26) fun w34 ρ31 => lt (sI ρ31 911 0 0 0 0) fun ρ35 => if (zI ρ35 906 0 0 0) = 0 then (fX14_item_157   y1 y3 y5 0 ρ35) else (if (zR ρ35 909 0 0 0).2 = 0 then fX14_item_157   y1 y3 y5 (zI ρ35 768 ((zR ρ35 909 0 0 0).1) 0 0) ρ35 else none)
noncomputable def fX14_item_68   (y1 : Int32) (y2 : Int32) (z0 : Int32) (ρ : Zs) : Option (Except (Int32 × Int32) (Unit) × Zs) :=
  bw (fX14_must z0 4 y2 ρ) fun w14 ρ11 => bq (fX14_is 200 ρ11) fun v15 ρ16 => if v15 = 0 then (bq (fX14_wrong ρ16) fun w101 ρ102 => some (.error w101, ρ102)) else (if gi (zI ρ16 905 0 0 0) 1501 then if gi (zI ρ16 905 0 0 0) 1501 then bq (fX14_streamOf (zJ ρ16 1928 0 0 (Int32.toNatClampNeg (zI ρ16 905 0 0 0))) ρ16) fun v21 ρ22 => if v21 = (-1) then (fX14_item_124   y1 (zJ ρ16 1928 0 0 (Int32.toNatClampNeg (zI ρ16 905 0 0 0))) (zI ρ16 1927 0 0 (Int32.toNatClampNeg (zI ρ16 905 0 0 0))) 1 ρ22) else (fX14_item_124   y1 (zJ ρ16 1928 0 0 (Int32.toNatClampNeg (zI ρ16 905 0 0 0))) (zI ρ16 1927 0 0 (Int32.toNatClampNeg (zI ρ16 905 0 0 0))) 0 ρ22) else none else none)
noncomputable def fX14_item  (ρ : Zs) : Option (Except (Int32 × Int32) (Unit) × Zs) :=
  if gi (zI ρ 905 0 0 0) 1501 then if gi (zI ρ 905 0 0 0) 1501 then if (zI ρ 1926 0 0 (Int32.toNatClampNeg (zI ρ 905 0 0 0))) = 17 then (bw (fX14_check (zI ρ 1927 0 0 (Int32.toNatClampNeg (zI ρ 905 0 0 0))) ρ) fun w118 ρ115 => some (.ok (), ρ115)) else (if (zI ρ 1926 0 0 (Int32.toNatClampNeg (zI ρ 905 0 0 0))) = 0 then (bw (fX14_take  ρ) fun w7 ρ4 => if (zR ρ4 909 0 0 0).2 = 0 then if 12 ≤ (zI ρ4 768 ((zR ρ4 909 0 0 0).1) 0 0) then (fX14_item_68   (zI ρ 1926 0 0 (Int32.toNatClampNeg (zI ρ 905 0 0 0))) (zI ρ 1927 0 0 (Int32.toNatClampNeg (zI ρ 905 0 0 0))) 0 ρ4) else (fX14_item_68   (zI ρ 1926 0 0 (Int32.toNatClampNeg (zI ρ 905 0 0 0))) (zI ρ 1927 0 0 (Int32.toNatClampNeg (zI ρ 905 0 0 0))) 1 ρ4) else none) else (if (zI ρ 1926 0 0 (Int32.toNatClampNeg (zI ρ 905 0 0 0))) = 2 then (bw (fX14_take  ρ) fun w108 ρ105 => if (zR ρ105 909 0 0 0).2 = 0 then if 12 ≤ (zI ρ105 768 ((zR ρ105 909 0 0 0).1) 0 0) then (fX14_item_68   (zI ρ 1926 0 0 (Int32.toNatClampNeg (zI ρ 905 0 0 0))) (zI ρ 1927 0 0 (Int32.toNatClampNeg (zI ρ 905 0 0 0))) 0 ρ105) else (fX14_item_68   (zI ρ 1926 0 0 (Int32.toNatClampNeg (zI ρ 905 0 0 0))) (zI ρ 1927 0 0 (Int32.toNatClampNeg (zI ρ 905 0 0 0))) 1 ρ105) else none) else (bq (fX14_wrong ρ) fun w111 ρ112 => some (.error w111, ρ112)))) else none else none

set_option maxRecDepth 20000 in
set_option maxHeartbeats 4000000 in
theorem t_X14_whole {A : Nat → Nat → Nat → Nat} {h : Hp} {σ ρ ρ' : Zs} {v : Int32}   (hz : Rp A h σ ρ) (hr : fX14_whole  ρ = some (.ok v, ρ')) : ∀ l : Launch, Sp l mX14_whole 96 0 0 [.ref (A 14 0 0)] h (QI A v σ ρ') X0 := by
  intro l
  refine Sp.of rfl rfl (lv := [(0, .ref (A 14 0 0))]) (Nat.le_of_ble_eq_true rfl) rfl (fun x hf hrm => ?_)
  rw [fX14_whole.eq_1] at hr
  refine w_aload_n 0 dX14_whole_0 rfl rfl rfl ?_
  obtain ⟨g2, hr⟩ := gd hr
  have hv1 := hz.ww909 (p := 0) (s := 0) rfl g2
  refine g_X14_232 dX14_whole_1 rfl (hz.o14 rfl) (hz.rr909 rfl g2) ?_
  refine g_X14_238 dX14_whole_4 rfl (hz.o12 hv1) (hz.i785 hv1) ?_
  refine w_istore_n [(1, .int (zI ρ 785 ((zR ρ 909 0 0 0).1) 0 0)), (0, .ref (A 14 0 0))] dX14_whole_7 rfl rfl (by decide) rfl ?_
  refine w_aload_n 1 dX14_whole_8 rfl rfl rfl ?_
  refine w_bipush 60 dX14_whole_9 rfl rfl ?_
  refine p_X14_216 dX14_whole_11 rfl (hz.o14 rfl) ?_
  obtain ⟨ρ3, e4, hr⟩ := lt_e hr
  have hz := (hz.s908 (v := 60) rfl).tr e4
  refine w_aload_n 1 dX14_whole_14 rfl rfl rfl ?_
  obtain ⟨v5, ρ6, e7, hr⟩ := bw_some hr
  rcases v5 with w9e | w9
  · exact noko (bw_er hr)
  have hr := bw_ok hr
  refine c_X14_244 (As := []) (rest := []) (fun l => t_X14_expression'  hz e7 l) hrm dX14_whole_15 rfl rfl (Nat.le_of_ble_eq_true rfl) (Nat.le_of_ble_eq_true rfl) (Nat.le_of_ble_eq_true rfl) (hz.o14 rfl) rfl (Nat.le_of_ble_eq_true rfl) (fun vr h2 hq => ?_) (fun E9 h9 hq => hq.elim)
  obtain ⟨rfl, hz⟩ := hq
  show wp _ _ 18 [(1, .int (zI ρ 785 ((zR ρ 909 0 0 0).1) 0 0)), (0, .ref (A 14 0 0))] [] _ _ _
  refine w_aload_n 1 dX14_whole_18 rfl rfl rfl ?_
  refine w_iconst (-1) dX14_whole_19 rfl rfl ?_
  refine p_X14_216 dX14_whole_20 rfl (hz.o14 rfl) ?_
  obtain ⟨ρ10, e11, hr⟩ := lt_e hr
  have hz := (hz.s908 (v := (-1)) rfl).tr e11
  refine w_aload_n 1 dX14_whole_23 rfl rfl rfl ?_
  refine w_bipush 50 dX14_whole_24 rfl rfl ?_
  refine w_lconst 0 dX14_whole_26 rfl rfl ?_
  obtain ⟨v12, ρ13, e14, hr⟩ := bq_some hr
  refine c_X14_247 (As := [.int 50, .long 0]) (rest := []) (fun l => s_X14_emit  hz e14 l) hrm dX14_whole_27 rfl rfl (Nat.le_of_ble_eq_true rfl) (Nat.le_of_ble_eq_true rfl) (Nat.le_of_ble_eq_true rfl) (hz.o14 rfl) rfl (Nat.le_of_ble_eq_true rfl) (fun vr h2 hq => ?_) (fun E9 h9 hq => hq.elim)
  obtain ⟨rfl, hz⟩ := hq
  show wp _ _ 30 [(1, .int (zI ρ 785 ((zR ρ 909 0 0 0).1) 0 0)), (0, .ref (A 14 0 0))] [] _ _ _
  refine w_iload_n 0 dX14_whole_30 rfl rfl rfl ?_
  refine w_iret hf dX14_whole_31 rfl (Nat.le_of_ble_eq_true rfl) (Nat.le_of_ble_eq_true rfl) ?_
  obtain ⟨rfl, rfl⟩ := retw hr
  exact ⟨rfl, hz⟩

set_option maxRecDepth 20000 in
set_option maxHeartbeats 4000000 in
theorem e_X14_whole {A : Nat → Nat → Nat → Nat} {h : Hp} {σ ρ ρ' : Zs} {v : Int32 × Int32}   (hz : Rp A h σ ρ) (hr : fX14_whole  ρ = some (.error v, ρ')) : ∀ l : Launch, Sp l mX14_whole 96 1 8 [.ref (A 14 0 0)] h QF (XW A v σ ρ') := by
  intro l
  refine Sp.of rfl rfl (lv := [(0, .ref (A 14 0 0))]) (Nat.le_of_ble_eq_true rfl) rfl (fun x hf hrm => ?_)
  rw [fX14_whole.eq_1] at hr
  refine w_aload_n 0 dX14_whole_0 rfl rfl rfl ?_
  obtain ⟨g2, hr⟩ := gd hr
  have hv1 := hz.ww909 (p := 0) (s := 0) rfl g2
  refine g_X14_232 dX14_whole_1 rfl (hz.o14 rfl) (hz.rr909 rfl g2) ?_
  refine g_X14_238 dX14_whole_4 rfl (hz.o12 hv1) (hz.i785 hv1) ?_
  refine w_istore_n [(1, .int (zI ρ 785 ((zR ρ 909 0 0 0).1) 0 0)), (0, .ref (A 14 0 0))] dX14_whole_7 rfl rfl (by decide) rfl ?_
  refine w_aload_n 1 dX14_whole_8 rfl rfl rfl ?_
  refine w_bipush 60 dX14_whole_9 rfl rfl ?_
  refine p_X14_216 dX14_whole_11 rfl (hz.o14 rfl) ?_
  obtain ⟨ρ3, e4, hr⟩ := lt_e hr
  have hz := (hz.s908 (v := 60) rfl).tr e4
  refine w_aload_n 1 dX14_whole_14 rfl rfl rfl ?_
  obtain ⟨v5, ρ6, e7, hr⟩ := bw_some hr
  rcases v5 with w9e | w9
  · obtain ⟨rfl, rfl⟩ := rete (bw_er hr)
    refine c_X14_244 (As := []) (rest := []) (fun l => e_X14_expression'  hz e7 l) hrm dX14_whole_15 rfl rfl (Nat.le_of_ble_eq_true rfl) (Nat.le_of_ble_eq_true rfl) (Nat.le_of_ble_eq_true rfl) (hz.o14 rfl) rfl (Nat.le_of_ble_eq_true rfl) (fun vr h2 hq => hq.elim) (fun E9 h9 hq => ?_)
    exact w_out hf (Nat.le_of_ble_eq_true rfl) (Nat.le_of_ble_eq_true rfl) hq
  have hr := bw_ok hr
  refine c_X14_244 (As := []) (rest := []) (fun l => t_X14_expression'  hz e7 l) hrm dX14_whole_15 rfl rfl (Nat.le_of_ble_eq_true rfl) (Nat.le_of_ble_eq_true rfl) (Nat.le_of_ble_eq_true rfl) (hz.o14 rfl) rfl (Nat.le_of_ble_eq_true rfl) (fun vr h2 hq => ?_) (fun E9 h9 hq => hq.elim)
  obtain ⟨rfl, hz⟩ := hq
  show wp _ _ 18 [(1, .int (zI ρ 785 ((zR ρ 909 0 0 0).1) 0 0)), (0, .ref (A 14 0 0))] [] _ _ _
  refine w_aload_n 1 dX14_whole_18 rfl rfl rfl ?_
  refine w_iconst (-1) dX14_whole_19 rfl rfl ?_
  refine p_X14_216 dX14_whole_20 rfl (hz.o14 rfl) ?_
  obtain ⟨ρ10, e11, hr⟩ := lt_e hr
  have hz := (hz.s908 (v := (-1)) rfl).tr e11
  refine w_aload_n 1 dX14_whole_23 rfl rfl rfl ?_
  refine w_bipush 50 dX14_whole_24 rfl rfl ?_
  refine w_lconst 0 dX14_whole_26 rfl rfl ?_
  obtain ⟨v12, ρ13, e14, hr⟩ := bq_some hr
  refine c_X14_247 (As := [.int 50, .long 0]) (rest := []) (fun l => s_X14_emit  hz e14 l) hrm dX14_whole_27 rfl rfl (Nat.le_of_ble_eq_true rfl) (Nat.le_of_ble_eq_true rfl) (Nat.le_of_ble_eq_true rfl) (hz.o14 rfl) rfl (Nat.le_of_ble_eq_true rfl) (fun vr h2 hq => ?_) (fun E9 h9 hq => hq.elim)
  obtain ⟨rfl, hz⟩ := hq
  show wp _ _ 30 [(1, .int (zI ρ 785 ((zR ρ 909 0 0 0).1) 0 0)), (0, .ref (A 14 0 0))] [] _ _ _
  refine w_iload_n 0 dX14_whole_30 rfl rfl rfl ?_
  exact noek hr

set_option maxRecDepth 20000 in
set_option maxHeartbeats 4000000 in
theorem u_X14_streamNamed_39 {A : Nat → Nat → Nat → Nat} {σ ρ' : Zs} {v : Int32} {x : Cxt}   (hf : m_fin 0 0 (QI A v σ ρ') X0 x) (hrm : m_rm 15 0 0 x)  : ∀ (z0 : Int32) (ρ : Zs) (h : Hp), Rp A h σ ρ → fX14_streamNamed_39   z0 ρ = some (.ok v, ρ') → wp x mX14_streamNamed 39 [(0, .ref (A 14 0 0))] [.int z0] h 0 0 := by
  intro z0 ρ h hz hr
  rw [fX14_streamNamed_39.eq_1] at hr
  refine w_istore_n [(1, .int z0), (0, .ref (A 14 0 0))] dX14_streamNamed_39 rfl rfl (by decide) rfl ?_
  refine w_aload_n 1 dX14_streamNamed_40 rfl rfl rfl ?_
  refine w_iload_n 0 dX14_streamNamed_41 rfl rfl rfl ?_
  refine w_iconst (-1) dX14_streamNamed_42 rfl rfl ?_
  refine w_icmp_eq 50 dX14_streamNamed_43 rfl rfl (fun q43 => ?_) (fun q43 => ?_)
  · have hr := bt q43 hr
    refine w_iconst 0 dX14_streamNamed_50 rfl rfl ?_
    refine w_iconst 2 dX14_streamNamed_51 rfl rfl ?_
    refine w_aload_n 1 dX14_streamNamed_52 rfl rfl rfl ?_
    refine g_X14_27 dX14_streamNamed_53 rfl (hz.o14 rfl) (hz.r903 rfl) ?_
    refine w_aload_n 1 dX14_streamNamed_56 rfl rfl rfl ?_
    refine g_X14_204 dX14_streamNamed_57 rfl (hz.o14 rfl) (hz.i905 rfl) ?_
    obtain ⟨g5, hr⟩ := gd hr
    refine w_iald dX14_streamNamed_60 rfl (hz.k903 rfl) (gin (hz.n903 rfl) g5) (hz.x903 rfl) ?_
    obtain ⟨v6, ρ7, e8, hr⟩ := bw_some hr
    rcases v6 with w10e | w10
    · exact noko (bw_er hr)
    have hr := bw_ok hr
    refine c_X14_277 (As := [.int 0, .int 2, .int (zI ρ 1927 0 0 (Int32.toNatClampNeg (zI ρ 905 0 0 0)))]) (rest := []) (fun l => t_X14_must  hz e8 l) hrm dX14_streamNamed_61 rfl rfl (Nat.le_of_ble_eq_true rfl) (Nat.le_of_ble_eq_true rfl) (Nat.le_of_ble_eq_true rfl) (hz.o14 rfl) rfl (Nat.le_of_ble_eq_true rfl) (fun vr h2 hq => ?_) (fun E9 h9 hq => hq.elim)
    obtain ⟨rfl, hz⟩ := hq
    show wp _ _ 64 [(1, .int z0), (0, .ref (A 14 0 0))] [] _ _ _
    refine w_aload_n 1 dX14_streamNamed_64 rfl rfl rfl ?_
    obtain ⟨v11, ρ12, e13, hr⟩ := bw_some hr
    rcases v11 with w15e | w15
    · exact noko (bw_er hr)
    have hr := bw_ok hr
    refine c_X14_226 (As := []) (rest := []) (fun l => t_X14_take  hz e13 l) hrm dX14_streamNamed_65 rfl rfl (Nat.le_of_ble_eq_true rfl) (Nat.le_of_ble_eq_true rfl) (Nat.le_of_ble_eq_true rfl) (hz.o14 rfl) rfl (Nat.le_of_ble_eq_true rfl) (fun vr h2 hq => ?_) (fun E9 h9 hq => hq.elim)
    obtain ⟨rfl, hz⟩ := hq
    show wp _ _ 68 [(1, .int z0), (0, .ref (A 14 0 0))] [] _ _ _
    refine w_iload_n 0 dX14_streamNamed_68 rfl rfl rfl ?_
    refine w_iret hf dX14_streamNamed_69 rfl (Nat.le_of_ble_eq_true rfl) (Nat.le_of_ble_eq_true rfl) ?_
    obtain ⟨rfl, rfl⟩ := retw hr
    exact ⟨rfl, hz⟩
  · have hr := bf q43 hr
    refine w_iconst 1 dX14_streamNamed_46 rfl rfl ?_
    refine w_goto 51 dX14_streamNamed_47 rfl ?_
    refine w_iconst 2 dX14_streamNamed_51 rfl rfl ?_
    refine w_aload_n 1 dX14_streamNamed_52 rfl rfl rfl ?_
    refine g_X14_27 dX14_streamNamed_53 rfl (hz.o14 rfl) (hz.r903 rfl) ?_
    refine w_aload_n 1 dX14_streamNamed_56 rfl rfl rfl ?_
    refine g_X14_204 dX14_streamNamed_57 rfl (hz.o14 rfl) (hz.i905 rfl) ?_
    obtain ⟨g16, hr⟩ := gd hr
    refine w_iald dX14_streamNamed_60 rfl (hz.k903 rfl) (gin (hz.n903 rfl) g16) (hz.x903 rfl) ?_
    obtain ⟨v17, ρ18, e19, hr⟩ := bw_some hr
    rcases v17 with w21e | w21
    · exact noko (bw_er hr)
    have hr := bw_ok hr
    refine c_X14_277 (As := [.int 1, .int 2, .int (zI ρ 1927 0 0 (Int32.toNatClampNeg (zI ρ 905 0 0 0)))]) (rest := []) (fun l => t_X14_must  hz e19 l) hrm dX14_streamNamed_61 rfl rfl (Nat.le_of_ble_eq_true rfl) (Nat.le_of_ble_eq_true rfl) (Nat.le_of_ble_eq_true rfl) (hz.o14 rfl) rfl (Nat.le_of_ble_eq_true rfl) (fun vr h2 hq => ?_) (fun E9 h9 hq => hq.elim)
    obtain ⟨rfl, hz⟩ := hq
    show wp _ _ 64 [(1, .int z0), (0, .ref (A 14 0 0))] [] _ _ _
    refine w_aload_n 1 dX14_streamNamed_64 rfl rfl rfl ?_
    obtain ⟨v22, ρ23, e24, hr⟩ := bw_some hr
    rcases v22 with w26e | w26
    · exact noko (bw_er hr)
    have hr := bw_ok hr
    refine c_X14_226 (As := []) (rest := []) (fun l => t_X14_take  hz e24 l) hrm dX14_streamNamed_65 rfl rfl (Nat.le_of_ble_eq_true rfl) (Nat.le_of_ble_eq_true rfl) (Nat.le_of_ble_eq_true rfl) (hz.o14 rfl) rfl (Nat.le_of_ble_eq_true rfl) (fun vr h2 hq => ?_) (fun E9 h9 hq => hq.elim)
    obtain ⟨rfl, hz⟩ := hq
    show wp _ _ 68 [(1, .int z0), (0, .ref (A 14 0 0))] [] _ _ _
    refine w_iload_n 0 dX14_streamNamed_68 rfl rfl rfl ?_
    refine w_iret hf dX14_streamNamed_69 rfl (Nat.le_of_ble_eq_true rfl) (Nat.le_of_ble_eq_true rfl) ?_
    obtain ⟨rfl, rfl⟩ := retw hr
    exact ⟨rfl, hz⟩
set_option maxRecDepth 20000 in
set_option maxHeartbeats 4000000 in
theorem t_X14_streamNamed {A : Nat → Nat → Nat → Nat} {h : Hp} {σ ρ ρ' : Zs} {v : Int32}   (hz : Rp A h σ ρ) (hr : fX14_streamNamed  ρ = some (.ok v, ρ')) : ∀ l : Launch, Sp l mX14_streamNamed 15 0 0 [.ref (A 14 0 0)] h (QI A v σ ρ') X0 := by
  intro l
  refine Sp.of rfl rfl (lv := [(0, .ref (A 14 0 0))]) (Nat.le_of_ble_eq_true rfl) rfl (fun x hf hrm => ?_)
  rw [fX14_streamNamed.eq_1] at hr
  refine w_aload_n 0 dX14_streamNamed_0 rfl rfl rfl ?_
  refine w_sipush 200 dX14_streamNamed_1 rfl rfl ?_
  obtain ⟨v1, ρ2, e3, hr⟩ := bq_some hr
  refine c_X14_223 (As := [.int 200]) (rest := []) (fun l => s_X14_is  hz e3 l) hrm dX14_streamNamed_4 rfl rfl (Nat.le_of_ble_eq_true rfl) (Nat.le_of_ble_eq_true rfl) (Nat.le_of_ble_eq_true rfl) (hz.o14 rfl) rfl (Nat.le_of_ble_eq_true rfl) (fun vr h2 hq => ?_) (fun E9 h9 hq => hq.elim)
  obtain ⟨rfl, hz⟩ := hq
  show wp _ _ 7 [(0, .ref (A 14 0 0))] [.int v1] _ _ _
  refine w_if_ne 15 dX14_streamNamed_7 rfl rfl (fun q7 => ?_) (fun q7 => ?_)
  · have hr := bf q7 hr
    refine w_aload_n 0 dX14_streamNamed_15 rfl rfl rfl ?_
    refine g_X14_212 dX14_streamNamed_16 rfl (hz.o14 rfl) (hz.i906 rfl) ?_
    refine w_if_eq 38 dX14_streamNamed_19 rfl rfl (fun q19 => ?_) (fun q19 => ?_)
    · have hr := bt q19 hr
      refine w_iconst 0 dX14_streamNamed_38 rfl rfl ?_
      refine w_lv [(0, .ref (A 14 0 0))] [0] rfl ?_
      exact u_X14_streamNamed_39 hf hrm   0 _ _ hz  hr
    · have hr := bf q19 hr
      refine w_aload_n 0 dX14_streamNamed_22 rfl rfl rfl ?_
      refine w_aload_n 0 dX14_streamNamed_23 rfl rfl rfl ?_
      refine g_X14_30 dX14_streamNamed_24 rfl (hz.o14 rfl) (hz.r904 rfl) ?_
      refine w_aload_n 0 dX14_streamNamed_27 rfl rfl rfl ?_
      refine g_X14_204 dX14_streamNamed_28 rfl (hz.o14 rfl) (hz.i905 rfl) ?_
      obtain ⟨g27, hr⟩ := gd hr
      refine w_lald dX14_streamNamed_31 rfl (hz.k904 rfl) (gin (hz.n904 rfl) g27) (hz.x904 rfl) ?_
      obtain ⟨v28, ρ29, e30, hr⟩ := bq_some hr
      refine c_X14_301 (As := [.long (zJ ρ2 1928 0 0 (Int32.toNatClampNeg (zI ρ2 905 0 0 0)))]) (rest := []) (fun l => s_X14_streamOf  hz e30 l) hrm dX14_streamNamed_32 rfl rfl (Nat.le_of_ble_eq_true rfl) (Nat.le_of_ble_eq_true rfl) (Nat.le_of_ble_eq_true rfl) (hz.o14 rfl) rfl (Nat.le_of_ble_eq_true rfl) (fun vr h2 hq => ?_) (fun E9 h9 hq => hq.elim)
      obtain ⟨rfl, hz⟩ := hq
      show wp _ _ 35 [(0, .ref (A 14 0 0))] [.int v28] _ _ _
      refine w_goto 39 dX14_streamNamed_35 rfl ?_
      refine w_lv [(0, .ref (A 14 0 0))] [0] rfl ?_
      exact u_X14_streamNamed_39 hf hrm   v28 _ _ hz  hr
  · have hr := bt q7 hr
    refine w_aload_n 0 dX14_streamNamed_10 rfl rfl rfl ?_
    obtain ⟨w32, ρ33, e34, hr⟩ := bq_some hr
    exact noko hr

set_option maxRecDepth 20000 in
set_option maxHeartbeats 4000000 in
theorem x_X14_streamNamed_39 {A : Nat → Nat → Nat → Nat} {σ ρ' : Zs} {v : Int32 × Int32} {x : Cxt}   (hf : m_fin 1 8 QF (XW A v σ ρ') x) (hrm : m_rm 15 1 8 x)  : ∀ (z0 : Int32) (ρ : Zs) (h : Hp), Rp A h σ ρ → fX14_streamNamed_39   z0 ρ = some (.error v, ρ') → wp x mX14_streamNamed 39 [(0, .ref (A 14 0 0))] [.int z0] h 0 0 := by
  intro z0 ρ h hz hr
  rw [fX14_streamNamed_39.eq_1] at hr
  refine w_istore_n [(1, .int z0), (0, .ref (A 14 0 0))] dX14_streamNamed_39 rfl rfl (by decide) rfl ?_
  refine w_aload_n 1 dX14_streamNamed_40 rfl rfl rfl ?_
  refine w_iload_n 0 dX14_streamNamed_41 rfl rfl rfl ?_
  refine w_iconst (-1) dX14_streamNamed_42 rfl rfl ?_
  refine w_icmp_eq 50 dX14_streamNamed_43 rfl rfl (fun q43 => ?_) (fun q43 => ?_)
  · have hr := bt q43 hr
    refine w_iconst 0 dX14_streamNamed_50 rfl rfl ?_
    refine w_iconst 2 dX14_streamNamed_51 rfl rfl ?_
    refine w_aload_n 1 dX14_streamNamed_52 rfl rfl rfl ?_
    refine g_X14_27 dX14_streamNamed_53 rfl (hz.o14 rfl) (hz.r903 rfl) ?_
    refine w_aload_n 1 dX14_streamNamed_56 rfl rfl rfl ?_
    refine g_X14_204 dX14_streamNamed_57 rfl (hz.o14 rfl) (hz.i905 rfl) ?_
    obtain ⟨g5, hr⟩ := gd hr
    refine w_iald dX14_streamNamed_60 rfl (hz.k903 rfl) (gin (hz.n903 rfl) g5) (hz.x903 rfl) ?_
    obtain ⟨v6, ρ7, e8, hr⟩ := bw_some hr
    rcases v6 with w10e | w10
    · obtain ⟨rfl, rfl⟩ := rete (bw_er hr)
      refine c_X14_277 (As := [.int 0, .int 2, .int (zI ρ 1927 0 0 (Int32.toNatClampNeg (zI ρ 905 0 0 0)))]) (rest := []) (fun l => e_X14_must  hz e8 l) hrm dX14_streamNamed_61 rfl rfl (Nat.le_of_ble_eq_true rfl) (Nat.le_of_ble_eq_true rfl) (Nat.le_of_ble_eq_true rfl) (hz.o14 rfl) rfl (Nat.le_of_ble_eq_true rfl) (fun vr h2 hq => hq.elim) (fun E9 h9 hq => ?_)
      exact w_out hf (Nat.le_of_ble_eq_true rfl) (Nat.le_of_ble_eq_true rfl) hq
    have hr := bw_ok hr
    refine c_X14_277 (As := [.int 0, .int 2, .int (zI ρ 1927 0 0 (Int32.toNatClampNeg (zI ρ 905 0 0 0)))]) (rest := []) (fun l => t_X14_must  hz e8 l) hrm dX14_streamNamed_61 rfl rfl (Nat.le_of_ble_eq_true rfl) (Nat.le_of_ble_eq_true rfl) (Nat.le_of_ble_eq_true rfl) (hz.o14 rfl) rfl (Nat.le_of_ble_eq_true rfl) (fun vr h2 hq => ?_) (fun E9 h9 hq => hq.elim)
    obtain ⟨rfl, hz⟩ := hq
    show wp _ _ 64 [(1, .int z0), (0, .ref (A 14 0 0))] [] _ _ _
    refine w_aload_n 1 dX14_streamNamed_64 rfl rfl rfl ?_
    obtain ⟨v11, ρ12, e13, hr⟩ := bw_some hr
    rcases v11 with w15e | w15
    · obtain ⟨rfl, rfl⟩ := rete (bw_er hr)
      refine c_X14_226 (As := []) (rest := []) (fun l => e_X14_take  hz e13 l) hrm dX14_streamNamed_65 rfl rfl (Nat.le_of_ble_eq_true rfl) (Nat.le_of_ble_eq_true rfl) (Nat.le_of_ble_eq_true rfl) (hz.o14 rfl) rfl (Nat.le_of_ble_eq_true rfl) (fun vr h2 hq => hq.elim) (fun E9 h9 hq => ?_)
      exact w_out hf (Nat.le_of_ble_eq_true rfl) (Nat.le_of_ble_eq_true rfl) hq
    have hr := bw_ok hr
    refine c_X14_226 (As := []) (rest := []) (fun l => t_X14_take  hz e13 l) hrm dX14_streamNamed_65 rfl rfl (Nat.le_of_ble_eq_true rfl) (Nat.le_of_ble_eq_true rfl) (Nat.le_of_ble_eq_true rfl) (hz.o14 rfl) rfl (Nat.le_of_ble_eq_true rfl) (fun vr h2 hq => ?_) (fun E9 h9 hq => hq.elim)
    obtain ⟨rfl, hz⟩ := hq
    show wp _ _ 68 [(1, .int z0), (0, .ref (A 14 0 0))] [] _ _ _
    refine w_iload_n 0 dX14_streamNamed_68 rfl rfl rfl ?_
    exact noek hr
  · have hr := bf q43 hr
    refine w_iconst 1 dX14_streamNamed_46 rfl rfl ?_
    refine w_goto 51 dX14_streamNamed_47 rfl ?_
    refine w_iconst 2 dX14_streamNamed_51 rfl rfl ?_
    refine w_aload_n 1 dX14_streamNamed_52 rfl rfl rfl ?_
    refine g_X14_27 dX14_streamNamed_53 rfl (hz.o14 rfl) (hz.r903 rfl) ?_
    refine w_aload_n 1 dX14_streamNamed_56 rfl rfl rfl ?_
    refine g_X14_204 dX14_streamNamed_57 rfl (hz.o14 rfl) (hz.i905 rfl) ?_
    obtain ⟨g16, hr⟩ := gd hr
    refine w_iald dX14_streamNamed_60 rfl (hz.k903 rfl) (gin (hz.n903 rfl) g16) (hz.x903 rfl) ?_
    obtain ⟨v17, ρ18, e19, hr⟩ := bw_some hr
    rcases v17 with w21e | w21
    · obtain ⟨rfl, rfl⟩ := rete (bw_er hr)
      refine c_X14_277 (As := [.int 1, .int 2, .int (zI ρ 1927 0 0 (Int32.toNatClampNeg (zI ρ 905 0 0 0)))]) (rest := []) (fun l => e_X14_must  hz e19 l) hrm dX14_streamNamed_61 rfl rfl (Nat.le_of_ble_eq_true rfl) (Nat.le_of_ble_eq_true rfl) (Nat.le_of_ble_eq_true rfl) (hz.o14 rfl) rfl (Nat.le_of_ble_eq_true rfl) (fun vr h2 hq => hq.elim) (fun E9 h9 hq => ?_)
      exact w_out hf (Nat.le_of_ble_eq_true rfl) (Nat.le_of_ble_eq_true rfl) hq
    have hr := bw_ok hr
    refine c_X14_277 (As := [.int 1, .int 2, .int (zI ρ 1927 0 0 (Int32.toNatClampNeg (zI ρ 905 0 0 0)))]) (rest := []) (fun l => t_X14_must  hz e19 l) hrm dX14_streamNamed_61 rfl rfl (Nat.le_of_ble_eq_true rfl) (Nat.le_of_ble_eq_true rfl) (Nat.le_of_ble_eq_true rfl) (hz.o14 rfl) rfl (Nat.le_of_ble_eq_true rfl) (fun vr h2 hq => ?_) (fun E9 h9 hq => hq.elim)
    obtain ⟨rfl, hz⟩ := hq
    show wp _ _ 64 [(1, .int z0), (0, .ref (A 14 0 0))] [] _ _ _
    refine w_aload_n 1 dX14_streamNamed_64 rfl rfl rfl ?_
    obtain ⟨v22, ρ23, e24, hr⟩ := bw_some hr
    rcases v22 with w26e | w26
    · obtain ⟨rfl, rfl⟩ := rete (bw_er hr)
      refine c_X14_226 (As := []) (rest := []) (fun l => e_X14_take  hz e24 l) hrm dX14_streamNamed_65 rfl rfl (Nat.le_of_ble_eq_true rfl) (Nat.le_of_ble_eq_true rfl) (Nat.le_of_ble_eq_true rfl) (hz.o14 rfl) rfl (Nat.le_of_ble_eq_true rfl) (fun vr h2 hq => hq.elim) (fun E9 h9 hq => ?_)
      exact w_out hf (Nat.le_of_ble_eq_true rfl) (Nat.le_of_ble_eq_true rfl) hq
    have hr := bw_ok hr
    refine c_X14_226 (As := []) (rest := []) (fun l => t_X14_take  hz e24 l) hrm dX14_streamNamed_65 rfl rfl (Nat.le_of_ble_eq_true rfl) (Nat.le_of_ble_eq_true rfl) (Nat.le_of_ble_eq_true rfl) (hz.o14 rfl) rfl (Nat.le_of_ble_eq_true rfl) (fun vr h2 hq => ?_) (fun E9 h9 hq => hq.elim)
    obtain ⟨rfl, hz⟩ := hq
    show wp _ _ 68 [(1, .int z0), (0, .ref (A 14 0 0))] [] _ _ _
    refine w_iload_n 0 dX14_streamNamed_68 rfl rfl rfl ?_
    exact noek hr
set_option maxRecDepth 20000 in
set_option maxHeartbeats 4000000 in
theorem e_X14_streamNamed {A : Nat → Nat → Nat → Nat} {h : Hp} {σ ρ ρ' : Zs} {v : Int32 × Int32}   (hz : Rp A h σ ρ) (hr : fX14_streamNamed  ρ = some (.error v, ρ')) : ∀ l : Launch, Sp l mX14_streamNamed 15 1 8 [.ref (A 14 0 0)] h QF (XW A v σ ρ') := by
  intro l
  refine Sp.of rfl rfl (lv := [(0, .ref (A 14 0 0))]) (Nat.le_of_ble_eq_true rfl) rfl (fun x hf hrm => ?_)
  rw [fX14_streamNamed.eq_1] at hr
  refine w_aload_n 0 dX14_streamNamed_0 rfl rfl rfl ?_
  refine w_sipush 200 dX14_streamNamed_1 rfl rfl ?_
  obtain ⟨v1, ρ2, e3, hr⟩ := bq_some hr
  refine c_X14_223 (As := [.int 200]) (rest := []) (fun l => s_X14_is  hz e3 l) hrm dX14_streamNamed_4 rfl rfl (Nat.le_of_ble_eq_true rfl) (Nat.le_of_ble_eq_true rfl) (Nat.le_of_ble_eq_true rfl) (hz.o14 rfl) rfl (Nat.le_of_ble_eq_true rfl) (fun vr h2 hq => ?_) (fun E9 h9 hq => hq.elim)
  obtain ⟨rfl, hz⟩ := hq
  show wp _ _ 7 [(0, .ref (A 14 0 0))] [.int v1] _ _ _
  refine w_if_ne 15 dX14_streamNamed_7 rfl rfl (fun q7 => ?_) (fun q7 => ?_)
  · have hr := bf q7 hr
    refine w_aload_n 0 dX14_streamNamed_15 rfl rfl rfl ?_
    refine g_X14_212 dX14_streamNamed_16 rfl (hz.o14 rfl) (hz.i906 rfl) ?_
    refine w_if_eq 38 dX14_streamNamed_19 rfl rfl (fun q19 => ?_) (fun q19 => ?_)
    · have hr := bt q19 hr
      refine w_iconst 0 dX14_streamNamed_38 rfl rfl ?_
      refine w_lv [(0, .ref (A 14 0 0))] [0] rfl ?_
      exact x_X14_streamNamed_39 hf hrm   0 _ _ hz  hr
    · have hr := bf q19 hr
      refine w_aload_n 0 dX14_streamNamed_22 rfl rfl rfl ?_
      refine w_aload_n 0 dX14_streamNamed_23 rfl rfl rfl ?_
      refine g_X14_30 dX14_streamNamed_24 rfl (hz.o14 rfl) (hz.r904 rfl) ?_
      refine w_aload_n 0 dX14_streamNamed_27 rfl rfl rfl ?_
      refine g_X14_204 dX14_streamNamed_28 rfl (hz.o14 rfl) (hz.i905 rfl) ?_
      obtain ⟨g27, hr⟩ := gd hr
      refine w_lald dX14_streamNamed_31 rfl (hz.k904 rfl) (gin (hz.n904 rfl) g27) (hz.x904 rfl) ?_
      obtain ⟨v28, ρ29, e30, hr⟩ := bq_some hr
      refine c_X14_301 (As := [.long (zJ ρ2 1928 0 0 (Int32.toNatClampNeg (zI ρ2 905 0 0 0)))]) (rest := []) (fun l => s_X14_streamOf  hz e30 l) hrm dX14_streamNamed_32 rfl rfl (Nat.le_of_ble_eq_true rfl) (Nat.le_of_ble_eq_true rfl) (Nat.le_of_ble_eq_true rfl) (hz.o14 rfl) rfl (Nat.le_of_ble_eq_true rfl) (fun vr h2 hq => ?_) (fun E9 h9 hq => hq.elim)
      obtain ⟨rfl, hz⟩ := hq
      show wp _ _ 35 [(0, .ref (A 14 0 0))] [.int v28] _ _ _
      refine w_goto 39 dX14_streamNamed_35 rfl ?_
      refine w_lv [(0, .ref (A 14 0 0))] [0] rfl ?_
      exact x_X14_streamNamed_39 hf hrm   v28 _ _ hz  hr
  · have hr := bt q7 hr
    refine w_aload_n 0 dX14_streamNamed_10 rfl rfl rfl ?_
    obtain ⟨w32, ρ33, e34, hr⟩ := bq_some hr
    refine c_X14_219 (As := []) (rest := []) (fun l => s_X14_wrong hz e34 l) hrm dX14_streamNamed_11 rfl rfl (Nat.le_of_ble_eq_true rfl) (Nat.le_of_ble_eq_true rfl) (Nat.le_of_ble_eq_true rfl) (hz.o14 rfl) rfl (Nat.le_of_ble_eq_true rfl) (fun vr h2 hq => ?_) (fun E9 h9 hq => hq.elim)
    obtain ⟨q, rfl, hq⟩ := hq
    obtain ⟨rfl, rfl⟩ := rete hr
    show wp _ _ 14 [(0, .ref (A 14 0 0))] [.ref q] _ _ _
    refine w_athrow dX14_streamNamed_14 (q := q) hq.1 ?_
    exact w_out hf (Nat.le_of_ble_eq_true rfl) (Nat.le_of_ble_eq_true rfl) hq.gh

set_option maxRecDepth 20000 in
set_option maxHeartbeats 4000000 in
theorem u_X14_columnNamed_40 {A : Nat → Nat → Nat → Nat} {σ ρ' : Zs} {v : Int32} {x : Cxt} {x1 : Int32}  (hf : m_fin 0 0 (QI A v σ ρ') X0 x) (hrm : m_rm 15 0 0 x)  : ∀ (z0 : Int32) (ρ : Zs) (h : Hp), Rp A h σ ρ → fX14_columnNamed_40 x1  z0 ρ = some (.ok v, ρ') → wp x mX14_columnNamed 40 [(0, .ref (A 14 0 0)), (1, .int x1)] [.int z0] h 0 0 := by
  intro z0 ρ h hz hr
  rw [fX14_columnNamed_40.eq_1] at hr
  refine w_istore_n [(2, .int z0), (0, .ref (A 14 0 0)), (1, .int x1)] dX14_columnNamed_40 rfl rfl (by decide) rfl ?_
  refine w_aload_n 1 dX14_columnNamed_41 rfl rfl rfl ?_
  refine w_iload_n 0 dX14_columnNamed_42 rfl rfl rfl ?_
  refine w_iconst (-1) dX14_columnNamed_43 rfl rfl ?_
  refine w_icmp_eq 51 dX14_columnNamed_44 rfl rfl (fun q44 => ?_) (fun q44 => ?_)
  · have hr := bt q44 hr
    refine w_iconst 0 dX14_columnNamed_51 rfl rfl ?_
    refine w_iconst 2 dX14_columnNamed_52 rfl rfl ?_
    refine w_aload_n 1 dX14_columnNamed_53 rfl rfl rfl ?_
    refine g_X14_27 dX14_columnNamed_54 rfl (hz.o14 rfl) (hz.r903 rfl) ?_
    refine w_aload_n 1 dX14_columnNamed_57 rfl rfl rfl ?_
    refine g_X14_204 dX14_columnNamed_58 rfl (hz.o14 rfl) (hz.i905 rfl) ?_
    obtain ⟨g5, hr⟩ := gd hr
    refine w_iald dX14_columnNamed_61 rfl (hz.k903 rfl) (gin (hz.n903 rfl) g5) (hz.x903 rfl) ?_
    obtain ⟨v6, ρ7, e8, hr⟩ := bw_some hr
    rcases v6 with w10e | w10
    · exact noko (bw_er hr)
    have hr := bw_ok hr
    refine c_X14_277 (As := [.int 0, .int 2, .int (zI ρ 1927 0 0 (Int32.toNatClampNeg (zI ρ 905 0 0 0)))]) (rest := []) (fun l => t_X14_must  hz e8 l) hrm dX14_columnNamed_62 rfl rfl (Nat.le_of_ble_eq_true rfl) (Nat.le_of_ble_eq_true rfl) (Nat.le_of_ble_eq_true rfl) (hz.o14 rfl) rfl (Nat.le_of_ble_eq_true rfl) (fun vr h2 hq => ?_) (fun E9 h9 hq => hq.elim)
    obtain ⟨rfl, hz⟩ := hq
    show wp _ _ 65 [(2, .int z0), (0, .ref (A 14 0 0)), (1, .int x1)] [] _ _ _
    refine w_aload_n 1 dX14_columnNamed_65 rfl rfl rfl ?_
    obtain ⟨v11, ρ12, e13, hr⟩ := bw_some hr
    rcases v11 with w15e | w15
    · exact noko (bw_er hr)
    have hr := bw_ok hr
    refine c_X14_226 (As := []) (rest := []) (fun l => t_X14_take  hz e13 l) hrm dX14_columnNamed_66 rfl rfl (Nat.le_of_ble_eq_true rfl) (Nat.le_of_ble_eq_true rfl) (Nat.le_of_ble_eq_true rfl) (hz.o14 rfl) rfl (Nat.le_of_ble_eq_true rfl) (fun vr h2 hq => ?_) (fun E9 h9 hq => hq.elim)
    obtain ⟨rfl, hz⟩ := hq
    show wp _ _ 69 [(2, .int z0), (0, .ref (A 14 0 0)), (1, .int x1)] [] _ _ _
    refine w_iload_n 0 dX14_columnNamed_69 rfl rfl rfl ?_
    refine w_iret hf dX14_columnNamed_70 rfl (Nat.le_of_ble_eq_true rfl) (Nat.le_of_ble_eq_true rfl) ?_
    obtain ⟨rfl, rfl⟩ := retw hr
    exact ⟨rfl, hz⟩
  · have hr := bf q44 hr
    refine w_iconst 1 dX14_columnNamed_47 rfl rfl ?_
    refine w_goto 52 dX14_columnNamed_48 rfl ?_
    refine w_iconst 2 dX14_columnNamed_52 rfl rfl ?_
    refine w_aload_n 1 dX14_columnNamed_53 rfl rfl rfl ?_
    refine g_X14_27 dX14_columnNamed_54 rfl (hz.o14 rfl) (hz.r903 rfl) ?_
    refine w_aload_n 1 dX14_columnNamed_57 rfl rfl rfl ?_
    refine g_X14_204 dX14_columnNamed_58 rfl (hz.o14 rfl) (hz.i905 rfl) ?_
    obtain ⟨g16, hr⟩ := gd hr
    refine w_iald dX14_columnNamed_61 rfl (hz.k903 rfl) (gin (hz.n903 rfl) g16) (hz.x903 rfl) ?_
    obtain ⟨v17, ρ18, e19, hr⟩ := bw_some hr
    rcases v17 with w21e | w21
    · exact noko (bw_er hr)
    have hr := bw_ok hr
    refine c_X14_277 (As := [.int 1, .int 2, .int (zI ρ 1927 0 0 (Int32.toNatClampNeg (zI ρ 905 0 0 0)))]) (rest := []) (fun l => t_X14_must  hz e19 l) hrm dX14_columnNamed_62 rfl rfl (Nat.le_of_ble_eq_true rfl) (Nat.le_of_ble_eq_true rfl) (Nat.le_of_ble_eq_true rfl) (hz.o14 rfl) rfl (Nat.le_of_ble_eq_true rfl) (fun vr h2 hq => ?_) (fun E9 h9 hq => hq.elim)
    obtain ⟨rfl, hz⟩ := hq
    show wp _ _ 65 [(2, .int z0), (0, .ref (A 14 0 0)), (1, .int x1)] [] _ _ _
    refine w_aload_n 1 dX14_columnNamed_65 rfl rfl rfl ?_
    obtain ⟨v22, ρ23, e24, hr⟩ := bw_some hr
    rcases v22 with w26e | w26
    · exact noko (bw_er hr)
    have hr := bw_ok hr
    refine c_X14_226 (As := []) (rest := []) (fun l => t_X14_take  hz e24 l) hrm dX14_columnNamed_66 rfl rfl (Nat.le_of_ble_eq_true rfl) (Nat.le_of_ble_eq_true rfl) (Nat.le_of_ble_eq_true rfl) (hz.o14 rfl) rfl (Nat.le_of_ble_eq_true rfl) (fun vr h2 hq => ?_) (fun E9 h9 hq => hq.elim)
    obtain ⟨rfl, hz⟩ := hq
    show wp _ _ 69 [(2, .int z0), (0, .ref (A 14 0 0)), (1, .int x1)] [] _ _ _
    refine w_iload_n 0 dX14_columnNamed_69 rfl rfl rfl ?_
    refine w_iret hf dX14_columnNamed_70 rfl (Nat.le_of_ble_eq_true rfl) (Nat.le_of_ble_eq_true rfl) ?_
    obtain ⟨rfl, rfl⟩ := retw hr
    exact ⟨rfl, hz⟩
set_option maxRecDepth 20000 in
set_option maxHeartbeats 4000000 in
theorem t_X14_columnNamed {A : Nat → Nat → Nat → Nat} {h : Hp} {σ ρ ρ' : Zs} {v : Int32} {x1 : Int32}  (hz : Rp A h σ ρ) (hr : fX14_columnNamed x1 ρ = some (.ok v, ρ')) : ∀ l : Launch, Sp l mX14_columnNamed 15 0 0 [.ref (A 14 0 0), .int x1] h (QI A v σ ρ') X0 := by
  intro l
  refine Sp.of rfl rfl (lv := [(0, .ref (A 14 0 0)), (1, .int x1)]) (Nat.le_of_ble_eq_true rfl) rfl (fun x hf hrm => ?_)
  rw [fX14_columnNamed.eq_1] at hr
  refine w_aload_n 0 dX14_columnNamed_0 rfl rfl rfl ?_
  refine w_sipush 200 dX14_columnNamed_1 rfl rfl ?_
  obtain ⟨v1, ρ2, e3, hr⟩ := bq_some hr
  refine c_X14_223 (As := [.int 200]) (rest := []) (fun l => s_X14_is  hz e3 l) hrm dX14_columnNamed_4 rfl rfl (Nat.le_of_ble_eq_true rfl) (Nat.le_of_ble_eq_true rfl) (Nat.le_of_ble_eq_true rfl) (hz.o14 rfl) rfl (Nat.le_of_ble_eq_true rfl) (fun vr h2 hq => ?_) (fun E9 h9 hq => hq.elim)
  obtain ⟨rfl, hz⟩ := hq
  show wp _ _ 7 [(0, .ref (A 14 0 0)), (1, .int x1)] [.int v1] _ _ _
  refine w_if_ne 15 dX14_columnNamed_7 rfl rfl (fun q7 => ?_) (fun q7 => ?_)
  · have hr := bf q7 hr
    refine w_aload_n 0 dX14_columnNamed_15 rfl rfl rfl ?_
    refine g_X14_212 dX14_columnNamed_16 rfl (hz.o14 rfl) (hz.i906 rfl) ?_
    refine w_if_eq 39 dX14_columnNamed_19 rfl rfl (fun q19 => ?_) (fun q19 => ?_)
    · have hr := bt q19 hr
      refine w_iconst 0 dX14_columnNamed_39 rfl rfl ?_
      refine w_lv [(0, .ref (A 14 0 0)), (1, .int x1)] [0, 1] rfl ?_
      exact u_X14_columnNamed_40 hf hrm   0 _ _ hz  hr
    · have hr := bf q19 hr
      refine w_aload_n 0 dX14_columnNamed_22 rfl rfl rfl ?_
      refine w_iload_n 1 dX14_columnNamed_23 rfl rfl rfl ?_
      refine w_aload_n 0 dX14_columnNamed_24 rfl rfl rfl ?_
      refine g_X14_30 dX14_columnNamed_25 rfl (hz.o14 rfl) (hz.r904 rfl) ?_
      refine w_aload_n 0 dX14_columnNamed_28 rfl rfl rfl ?_
      refine g_X14_204 dX14_columnNamed_29 rfl (hz.o14 rfl) (hz.i905 rfl) ?_
      obtain ⟨g27, hr⟩ := gd hr
      refine w_lald dX14_columnNamed_32 rfl (hz.k904 rfl) (gin (hz.n904 rfl) g27) (hz.x904 rfl) ?_
      obtain ⟨v28, ρ29, e30, hr⟩ := bq_some hr
      refine c_X14_273 (As := [.int x1, .long (zJ ρ2 1928 0 0 (Int32.toNatClampNeg (zI ρ2 905 0 0 0)))]) (rest := []) (fun l => s_X14_columnOf  hz e30 l) hrm dX14_columnNamed_33 rfl rfl (Nat.le_of_ble_eq_true rfl) (Nat.le_of_ble_eq_true rfl) (Nat.le_of_ble_eq_true rfl) (hz.o14 rfl) rfl (Nat.le_of_ble_eq_true rfl) (fun vr h2 hq => ?_) (fun E9 h9 hq => hq.elim)
      obtain ⟨rfl, hz⟩ := hq
      show wp _ _ 36 [(0, .ref (A 14 0 0)), (1, .int x1)] [.int v28] _ _ _
      refine w_goto 40 dX14_columnNamed_36 rfl ?_
      refine w_lv [(0, .ref (A 14 0 0)), (1, .int x1)] [0, 1] rfl ?_
      exact u_X14_columnNamed_40 hf hrm   v28 _ _ hz  hr
  · have hr := bt q7 hr
    refine w_aload_n 0 dX14_columnNamed_10 rfl rfl rfl ?_
    obtain ⟨w32, ρ33, e34, hr⟩ := bq_some hr
    exact noko hr

set_option maxRecDepth 20000 in
set_option maxHeartbeats 4000000 in
theorem x_X14_columnNamed_40 {A : Nat → Nat → Nat → Nat} {σ ρ' : Zs} {v : Int32 × Int32} {x : Cxt} {x1 : Int32}  (hf : m_fin 1 8 QF (XW A v σ ρ') x) (hrm : m_rm 15 1 8 x)  : ∀ (z0 : Int32) (ρ : Zs) (h : Hp), Rp A h σ ρ → fX14_columnNamed_40 x1  z0 ρ = some (.error v, ρ') → wp x mX14_columnNamed 40 [(0, .ref (A 14 0 0)), (1, .int x1)] [.int z0] h 0 0 := by
  intro z0 ρ h hz hr
  rw [fX14_columnNamed_40.eq_1] at hr
  refine w_istore_n [(2, .int z0), (0, .ref (A 14 0 0)), (1, .int x1)] dX14_columnNamed_40 rfl rfl (by decide) rfl ?_
  refine w_aload_n 1 dX14_columnNamed_41 rfl rfl rfl ?_
  refine w_iload_n 0 dX14_columnNamed_42 rfl rfl rfl ?_
  refine w_iconst (-1) dX14_columnNamed_43 rfl rfl ?_
  refine w_icmp_eq 51 dX14_columnNamed_44 rfl rfl (fun q44 => ?_) (fun q44 => ?_)
  · have hr := bt q44 hr
    refine w_iconst 0 dX14_columnNamed_51 rfl rfl ?_
    refine w_iconst 2 dX14_columnNamed_52 rfl rfl ?_
    refine w_aload_n 1 dX14_columnNamed_53 rfl rfl rfl ?_
    refine g_X14_27 dX14_columnNamed_54 rfl (hz.o14 rfl) (hz.r903 rfl) ?_
    refine w_aload_n 1 dX14_columnNamed_57 rfl rfl rfl ?_
    refine g_X14_204 dX14_columnNamed_58 rfl (hz.o14 rfl) (hz.i905 rfl) ?_
    obtain ⟨g5, hr⟩ := gd hr
    refine w_iald dX14_columnNamed_61 rfl (hz.k903 rfl) (gin (hz.n903 rfl) g5) (hz.x903 rfl) ?_
    obtain ⟨v6, ρ7, e8, hr⟩ := bw_some hr
    rcases v6 with w10e | w10
    · obtain ⟨rfl, rfl⟩ := rete (bw_er hr)
      refine c_X14_277 (As := [.int 0, .int 2, .int (zI ρ 1927 0 0 (Int32.toNatClampNeg (zI ρ 905 0 0 0)))]) (rest := []) (fun l => e_X14_must  hz e8 l) hrm dX14_columnNamed_62 rfl rfl (Nat.le_of_ble_eq_true rfl) (Nat.le_of_ble_eq_true rfl) (Nat.le_of_ble_eq_true rfl) (hz.o14 rfl) rfl (Nat.le_of_ble_eq_true rfl) (fun vr h2 hq => hq.elim) (fun E9 h9 hq => ?_)
      exact w_out hf (Nat.le_of_ble_eq_true rfl) (Nat.le_of_ble_eq_true rfl) hq
    have hr := bw_ok hr
    refine c_X14_277 (As := [.int 0, .int 2, .int (zI ρ 1927 0 0 (Int32.toNatClampNeg (zI ρ 905 0 0 0)))]) (rest := []) (fun l => t_X14_must  hz e8 l) hrm dX14_columnNamed_62 rfl rfl (Nat.le_of_ble_eq_true rfl) (Nat.le_of_ble_eq_true rfl) (Nat.le_of_ble_eq_true rfl) (hz.o14 rfl) rfl (Nat.le_of_ble_eq_true rfl) (fun vr h2 hq => ?_) (fun E9 h9 hq => hq.elim)
    obtain ⟨rfl, hz⟩ := hq
    show wp _ _ 65 [(2, .int z0), (0, .ref (A 14 0 0)), (1, .int x1)] [] _ _ _
    refine w_aload_n 1 dX14_columnNamed_65 rfl rfl rfl ?_
    obtain ⟨v11, ρ12, e13, hr⟩ := bw_some hr
    rcases v11 with w15e | w15
    · obtain ⟨rfl, rfl⟩ := rete (bw_er hr)
      refine c_X14_226 (As := []) (rest := []) (fun l => e_X14_take  hz e13 l) hrm dX14_columnNamed_66 rfl rfl (Nat.le_of_ble_eq_true rfl) (Nat.le_of_ble_eq_true rfl) (Nat.le_of_ble_eq_true rfl) (hz.o14 rfl) rfl (Nat.le_of_ble_eq_true rfl) (fun vr h2 hq => hq.elim) (fun E9 h9 hq => ?_)
      exact w_out hf (Nat.le_of_ble_eq_true rfl) (Nat.le_of_ble_eq_true rfl) hq
    have hr := bw_ok hr
    refine c_X14_226 (As := []) (rest := []) (fun l => t_X14_take  hz e13 l) hrm dX14_columnNamed_66 rfl rfl (Nat.le_of_ble_eq_true rfl) (Nat.le_of_ble_eq_true rfl) (Nat.le_of_ble_eq_true rfl) (hz.o14 rfl) rfl (Nat.le_of_ble_eq_true rfl) (fun vr h2 hq => ?_) (fun E9 h9 hq => hq.elim)
    obtain ⟨rfl, hz⟩ := hq
    show wp _ _ 69 [(2, .int z0), (0, .ref (A 14 0 0)), (1, .int x1)] [] _ _ _
    refine w_iload_n 0 dX14_columnNamed_69 rfl rfl rfl ?_
    exact noek hr
  · have hr := bf q44 hr
    refine w_iconst 1 dX14_columnNamed_47 rfl rfl ?_
    refine w_goto 52 dX14_columnNamed_48 rfl ?_
    refine w_iconst 2 dX14_columnNamed_52 rfl rfl ?_
    refine w_aload_n 1 dX14_columnNamed_53 rfl rfl rfl ?_
    refine g_X14_27 dX14_columnNamed_54 rfl (hz.o14 rfl) (hz.r903 rfl) ?_
    refine w_aload_n 1 dX14_columnNamed_57 rfl rfl rfl ?_
    refine g_X14_204 dX14_columnNamed_58 rfl (hz.o14 rfl) (hz.i905 rfl) ?_
    obtain ⟨g16, hr⟩ := gd hr
    refine w_iald dX14_columnNamed_61 rfl (hz.k903 rfl) (gin (hz.n903 rfl) g16) (hz.x903 rfl) ?_
    obtain ⟨v17, ρ18, e19, hr⟩ := bw_some hr
    rcases v17 with w21e | w21
    · obtain ⟨rfl, rfl⟩ := rete (bw_er hr)
      refine c_X14_277 (As := [.int 1, .int 2, .int (zI ρ 1927 0 0 (Int32.toNatClampNeg (zI ρ 905 0 0 0)))]) (rest := []) (fun l => e_X14_must  hz e19 l) hrm dX14_columnNamed_62 rfl rfl (Nat.le_of_ble_eq_true rfl) (Nat.le_of_ble_eq_true rfl) (Nat.le_of_ble_eq_true rfl) (hz.o14 rfl) rfl (Nat.le_of_ble_eq_true rfl) (fun vr h2 hq => hq.elim) (fun E9 h9 hq => ?_)
      exact w_out hf (Nat.le_of_ble_eq_true rfl) (Nat.le_of_ble_eq_true rfl) hq
    have hr := bw_ok hr
    refine c_X14_277 (As := [.int 1, .int 2, .int (zI ρ 1927 0 0 (Int32.toNatClampNeg (zI ρ 905 0 0 0)))]) (rest := []) (fun l => t_X14_must  hz e19 l) hrm dX14_columnNamed_62 rfl rfl (Nat.le_of_ble_eq_true rfl) (Nat.le_of_ble_eq_true rfl) (Nat.le_of_ble_eq_true rfl) (hz.o14 rfl) rfl (Nat.le_of_ble_eq_true rfl) (fun vr h2 hq => ?_) (fun E9 h9 hq => hq.elim)
    obtain ⟨rfl, hz⟩ := hq
    show wp _ _ 65 [(2, .int z0), (0, .ref (A 14 0 0)), (1, .int x1)] [] _ _ _
    refine w_aload_n 1 dX14_columnNamed_65 rfl rfl rfl ?_
    obtain ⟨v22, ρ23, e24, hr⟩ := bw_some hr
    rcases v22 with w26e | w26
    · obtain ⟨rfl, rfl⟩ := rete (bw_er hr)
      refine c_X14_226 (As := []) (rest := []) (fun l => e_X14_take  hz e24 l) hrm dX14_columnNamed_66 rfl rfl (Nat.le_of_ble_eq_true rfl) (Nat.le_of_ble_eq_true rfl) (Nat.le_of_ble_eq_true rfl) (hz.o14 rfl) rfl (Nat.le_of_ble_eq_true rfl) (fun vr h2 hq => hq.elim) (fun E9 h9 hq => ?_)
      exact w_out hf (Nat.le_of_ble_eq_true rfl) (Nat.le_of_ble_eq_true rfl) hq
    have hr := bw_ok hr
    refine c_X14_226 (As := []) (rest := []) (fun l => t_X14_take  hz e24 l) hrm dX14_columnNamed_66 rfl rfl (Nat.le_of_ble_eq_true rfl) (Nat.le_of_ble_eq_true rfl) (Nat.le_of_ble_eq_true rfl) (hz.o14 rfl) rfl (Nat.le_of_ble_eq_true rfl) (fun vr h2 hq => ?_) (fun E9 h9 hq => hq.elim)
    obtain ⟨rfl, hz⟩ := hq
    show wp _ _ 69 [(2, .int z0), (0, .ref (A 14 0 0)), (1, .int x1)] [] _ _ _
    refine w_iload_n 0 dX14_columnNamed_69 rfl rfl rfl ?_
    exact noek hr
set_option maxRecDepth 20000 in
set_option maxHeartbeats 4000000 in
theorem e_X14_columnNamed {A : Nat → Nat → Nat → Nat} {h : Hp} {σ ρ ρ' : Zs} {v : Int32 × Int32} {x1 : Int32}  (hz : Rp A h σ ρ) (hr : fX14_columnNamed x1 ρ = some (.error v, ρ')) : ∀ l : Launch, Sp l mX14_columnNamed 15 1 8 [.ref (A 14 0 0), .int x1] h QF (XW A v σ ρ') := by
  intro l
  refine Sp.of rfl rfl (lv := [(0, .ref (A 14 0 0)), (1, .int x1)]) (Nat.le_of_ble_eq_true rfl) rfl (fun x hf hrm => ?_)
  rw [fX14_columnNamed.eq_1] at hr
  refine w_aload_n 0 dX14_columnNamed_0 rfl rfl rfl ?_
  refine w_sipush 200 dX14_columnNamed_1 rfl rfl ?_
  obtain ⟨v1, ρ2, e3, hr⟩ := bq_some hr
  refine c_X14_223 (As := [.int 200]) (rest := []) (fun l => s_X14_is  hz e3 l) hrm dX14_columnNamed_4 rfl rfl (Nat.le_of_ble_eq_true rfl) (Nat.le_of_ble_eq_true rfl) (Nat.le_of_ble_eq_true rfl) (hz.o14 rfl) rfl (Nat.le_of_ble_eq_true rfl) (fun vr h2 hq => ?_) (fun E9 h9 hq => hq.elim)
  obtain ⟨rfl, hz⟩ := hq
  show wp _ _ 7 [(0, .ref (A 14 0 0)), (1, .int x1)] [.int v1] _ _ _
  refine w_if_ne 15 dX14_columnNamed_7 rfl rfl (fun q7 => ?_) (fun q7 => ?_)
  · have hr := bf q7 hr
    refine w_aload_n 0 dX14_columnNamed_15 rfl rfl rfl ?_
    refine g_X14_212 dX14_columnNamed_16 rfl (hz.o14 rfl) (hz.i906 rfl) ?_
    refine w_if_eq 39 dX14_columnNamed_19 rfl rfl (fun q19 => ?_) (fun q19 => ?_)
    · have hr := bt q19 hr
      refine w_iconst 0 dX14_columnNamed_39 rfl rfl ?_
      refine w_lv [(0, .ref (A 14 0 0)), (1, .int x1)] [0, 1] rfl ?_
      exact x_X14_columnNamed_40 hf hrm   0 _ _ hz  hr
    · have hr := bf q19 hr
      refine w_aload_n 0 dX14_columnNamed_22 rfl rfl rfl ?_
      refine w_iload_n 1 dX14_columnNamed_23 rfl rfl rfl ?_
      refine w_aload_n 0 dX14_columnNamed_24 rfl rfl rfl ?_
      refine g_X14_30 dX14_columnNamed_25 rfl (hz.o14 rfl) (hz.r904 rfl) ?_
      refine w_aload_n 0 dX14_columnNamed_28 rfl rfl rfl ?_
      refine g_X14_204 dX14_columnNamed_29 rfl (hz.o14 rfl) (hz.i905 rfl) ?_
      obtain ⟨g27, hr⟩ := gd hr
      refine w_lald dX14_columnNamed_32 rfl (hz.k904 rfl) (gin (hz.n904 rfl) g27) (hz.x904 rfl) ?_
      obtain ⟨v28, ρ29, e30, hr⟩ := bq_some hr
      refine c_X14_273 (As := [.int x1, .long (zJ ρ2 1928 0 0 (Int32.toNatClampNeg (zI ρ2 905 0 0 0)))]) (rest := []) (fun l => s_X14_columnOf  hz e30 l) hrm dX14_columnNamed_33 rfl rfl (Nat.le_of_ble_eq_true rfl) (Nat.le_of_ble_eq_true rfl) (Nat.le_of_ble_eq_true rfl) (hz.o14 rfl) rfl (Nat.le_of_ble_eq_true rfl) (fun vr h2 hq => ?_) (fun E9 h9 hq => hq.elim)
      obtain ⟨rfl, hz⟩ := hq
      show wp _ _ 36 [(0, .ref (A 14 0 0)), (1, .int x1)] [.int v28] _ _ _
      refine w_goto 40 dX14_columnNamed_36 rfl ?_
      refine w_lv [(0, .ref (A 14 0 0)), (1, .int x1)] [0, 1] rfl ?_
      exact x_X14_columnNamed_40 hf hrm   v28 _ _ hz  hr
  · have hr := bt q7 hr
    refine w_aload_n 0 dX14_columnNamed_10 rfl rfl rfl ?_
    obtain ⟨w32, ρ33, e34, hr⟩ := bq_some hr
    refine c_X14_219 (As := []) (rest := []) (fun l => s_X14_wrong hz e34 l) hrm dX14_columnNamed_11 rfl rfl (Nat.le_of_ble_eq_true rfl) (Nat.le_of_ble_eq_true rfl) (Nat.le_of_ble_eq_true rfl) (hz.o14 rfl) rfl (Nat.le_of_ble_eq_true rfl) (fun vr h2 hq => ?_) (fun E9 h9 hq => hq.elim)
    obtain ⟨q, rfl, hq⟩ := hq
    obtain ⟨rfl, rfl⟩ := rete hr
    show wp _ _ 14 [(0, .ref (A 14 0 0)), (1, .int x1)] [.ref q] _ _ _
    refine w_athrow dX14_columnNamed_14 (q := q) hq.1 ?_
    exact w_out hf (Nat.le_of_ble_eq_true rfl) (Nat.le_of_ble_eq_true rfl) hq.gh

set_option maxRecDepth 20000 in
set_option maxHeartbeats 4000000 in
theorem t_X14_numberIn {A : Nat → Nat → Nat → Nat} {h : Hp} {σ ρ ρ' : Zs} {v : Int32} {x1 : Int32}  (hz : Rp A h σ ρ) (hr : fX14_numberIn x1 ρ = some (.ok v, ρ')) : ∀ l : Launch, Sp l mX14_numberIn 15 0 0 [.ref (A 14 0 0), .int x1] h (QI A v σ ρ') X0 := by
  intro l
  refine Sp.of rfl rfl (lv := [(0, .ref (A 14 0 0)), (1, .int x1)]) (Nat.le_of_ble_eq_true rfl) rfl (fun x hf hrm => ?_)
  rw [fX14_numberIn.eq_1] at hr
  refine w_aload_n 0 dX14_numberIn_0 rfl rfl rfl ?_
  refine w_sipush 201 dX14_numberIn_1 rfl rfl ?_
  obtain ⟨v1, ρ2, e3, hr⟩ := bq_some hr
  refine c_X14_223 (As := [.int 201]) (rest := []) (fun l => s_X14_is  hz e3 l) hrm dX14_numberIn_4 rfl rfl (Nat.le_of_ble_eq_true rfl) (Nat.le_of_ble_eq_true rfl) (Nat.le_of_ble_eq_true rfl) (hz.o14 rfl) rfl (Nat.le_of_ble_eq_true rfl) (fun vr h2 hq => ?_) (fun E9 h9 hq => hq.elim)
  obtain ⟨rfl, hz⟩ := hq
  show wp _ _ 7 [(0, .ref (A 14 0 0)), (1, .int x1)] [.int v1] _ _ _
  refine w_if_ne 15 dX14_numberIn_7 rfl rfl (fun q7 => ?_) (fun q7 => ?_)
  · have hr := bf q7 hr
    refine w_aload_n 0 dX14_numberIn_15 rfl rfl rfl ?_
    refine g_X14_30 dX14_numberIn_16 rfl (hz.o14 rfl) (hz.r904 rfl) ?_
    refine w_aload_n 0 dX14_numberIn_19 rfl rfl rfl ?_
    refine g_X14_204 dX14_numberIn_20 rfl (hz.o14 rfl) (hz.i905 rfl) ?_
    obtain ⟨g5, hr⟩ := gd hr
    refine w_lald dX14_numberIn_23 rfl (hz.k904 rfl) (gin (hz.n904 rfl) g5) (hz.x904 rfl) ?_
    refine w_lstore_n [(2, .long (zJ ρ2 1928 0 0 (Int32.toNatClampNeg (zI ρ2 905 0 0 0)))), (0, .ref (A 14 0 0)), (1, .int x1)] dX14_numberIn_24 rfl rfl (by decide) rfl ?_
    refine w_aload_n 1 dX14_numberIn_25 rfl rfl rfl ?_
    refine w_lload_n 0 dX14_numberIn_26 rfl rfl rfl ?_
    refine w_iload_n 2 dX14_numberIn_27 rfl rfl rfl ?_
    refine w_i2l dX14_numberIn_28 rfl ?_
    refine w_ldc2 dX14_numberIn_29 rfl k_X14_305 ?_
    obtain ⟨v6, ρ7, e8, hr⟩ := bq_some hr
    refine c_X14_163 (b := 0) (As := [.long (zJ ρ2 1928 0 0 (Int32.toNatClampNeg (zI ρ2 905 0 0 0))), .long ((x1 : Int32).toInt64), .long 1000]) (rest := [.ref (A 14 0 0)]) (fun l => s_X14_isIn  hz e8 l) hrm dX14_numberIn_32 rfl rfl (Nat.le_of_ble_eq_true rfl) (Nat.le_of_ble_eq_true rfl) (Nat.le_of_ble_eq_true rfl) rfl (Nat.le_of_ble_eq_true rfl) (fun vr h2 hq => ?_) (fun E9 h9 hq => hq.elim)
    obtain ⟨rfl, hz⟩ := hq
    show wp _ _ 35 [(2, .long (zJ ρ2 1928 0 0 (Int32.toNatClampNeg (zI ρ2 905 0 0 0)))), (0, .ref (A 14 0 0)), (1, .int x1)] [.int v6, .ref (A 14 0 0)] _ _ _
    refine w_bipush 6 dX14_numberIn_35 rfl rfl ?_
    refine w_aload_n 1 dX14_numberIn_37 rfl rfl rfl ?_
    refine g_X14_27 dX14_numberIn_38 rfl (hz.o14 rfl) (hz.r903 rfl) ?_
    refine w_aload_n 1 dX14_numberIn_41 rfl rfl rfl ?_
    refine g_X14_204 dX14_numberIn_42 rfl (hz.o14 rfl) (hz.i905 rfl) ?_
    obtain ⟨g10, hr⟩ := gd hr
    refine w_iald dX14_numberIn_45 rfl (hz.k903 rfl) (gin (hz.n903 rfl) g10) (hz.x903 rfl) ?_
    obtain ⟨v11, ρ12, e13, hr⟩ := bw_some hr
    rcases v11 with w15e | w15
    · exact noko (bw_er hr)
    have hr := bw_ok hr
    refine c_X14_277 (As := [.int v6, .int 6, .int (zI ρ7 1927 0 0 (Int32.toNatClampNeg (zI ρ7 905 0 0 0)))]) (rest := []) (fun l => t_X14_must  hz e13 l) hrm dX14_numberIn_46 rfl rfl (Nat.le_of_ble_eq_true rfl) (Nat.le_of_ble_eq_true rfl) (Nat.le_of_ble_eq_true rfl) (hz.o14 rfl) rfl (Nat.le_of_ble_eq_true rfl) (fun vr h2 hq => ?_) (fun E9 h9 hq => hq.elim)
    obtain ⟨rfl, hz⟩ := hq
    show wp _ _ 49 [(2, .long (zJ ρ2 1928 0 0 (Int32.toNatClampNeg (zI ρ2 905 0 0 0)))), (0, .ref (A 14 0 0)), (1, .int x1)] [] _ _ _
    refine w_aload_n 1 dX14_numberIn_49 rfl rfl rfl ?_
    obtain ⟨v16, ρ17, e18, hr⟩ := bw_some hr
    rcases v16 with w20e | w20
    · exact noko (bw_er hr)
    have hr := bw_ok hr
    refine c_X14_226 (As := []) (rest := []) (fun l => t_X14_take  hz e18 l) hrm dX14_numberIn_50 rfl rfl (Nat.le_of_ble_eq_true rfl) (Nat.le_of_ble_eq_true rfl) (Nat.le_of_ble_eq_true rfl) (hz.o14 rfl) rfl (Nat.le_of_ble_eq_true rfl) (fun vr h2 hq => ?_) (fun E9 h9 hq => hq.elim)
    obtain ⟨rfl, hz⟩ := hq
    show wp _ _ 53 [(2, .long (zJ ρ2 1928 0 0 (Int32.toNatClampNeg (zI ρ2 905 0 0 0)))), (0, .ref (A 14 0 0)), (1, .int x1)] [] _ _ _
    refine w_lload_n 0 dX14_numberIn_53 rfl rfl rfl ?_
    refine w_ldc2 dX14_numberIn_54 rfl k_X14_305 ?_
    refine w_mlmin hrm (by decide) dX14_numberIn_57 rfl ml_X14_307 (Nat.le_of_ble_eq_true rfl) (Nat.le_of_ble_eq_true rfl) (Nat.le_of_ble_eq_true rfl) ?_
    refine w_l2i dX14_numberIn_60 rfl ?_
    refine w_iret hf dX14_numberIn_61 rfl (Nat.le_of_ble_eq_true rfl) (Nat.le_of_ble_eq_true rfl) ?_
    obtain ⟨rfl, rfl⟩ := retw hr
    exact ⟨rfl, hz⟩
  · have hr := bt q7 hr
    refine w_aload_n 0 dX14_numberIn_10 rfl rfl rfl ?_
    obtain ⟨w21, ρ22, e23, hr⟩ := bq_some hr
    exact noko hr

set_option maxRecDepth 20000 in
set_option maxHeartbeats 4000000 in
theorem e_X14_numberIn {A : Nat → Nat → Nat → Nat} {h : Hp} {σ ρ ρ' : Zs} {v : Int32 × Int32} {x1 : Int32}  (hz : Rp A h σ ρ) (hr : fX14_numberIn x1 ρ = some (.error v, ρ')) : ∀ l : Launch, Sp l mX14_numberIn 15 1 8 [.ref (A 14 0 0), .int x1] h QF (XW A v σ ρ') := by
  intro l
  refine Sp.of rfl rfl (lv := [(0, .ref (A 14 0 0)), (1, .int x1)]) (Nat.le_of_ble_eq_true rfl) rfl (fun x hf hrm => ?_)
  rw [fX14_numberIn.eq_1] at hr
  refine w_aload_n 0 dX14_numberIn_0 rfl rfl rfl ?_
  refine w_sipush 201 dX14_numberIn_1 rfl rfl ?_
  obtain ⟨v1, ρ2, e3, hr⟩ := bq_some hr
  refine c_X14_223 (As := [.int 201]) (rest := []) (fun l => s_X14_is  hz e3 l) hrm dX14_numberIn_4 rfl rfl (Nat.le_of_ble_eq_true rfl) (Nat.le_of_ble_eq_true rfl) (Nat.le_of_ble_eq_true rfl) (hz.o14 rfl) rfl (Nat.le_of_ble_eq_true rfl) (fun vr h2 hq => ?_) (fun E9 h9 hq => hq.elim)
  obtain ⟨rfl, hz⟩ := hq
  show wp _ _ 7 [(0, .ref (A 14 0 0)), (1, .int x1)] [.int v1] _ _ _
  refine w_if_ne 15 dX14_numberIn_7 rfl rfl (fun q7 => ?_) (fun q7 => ?_)
  · have hr := bf q7 hr
    refine w_aload_n 0 dX14_numberIn_15 rfl rfl rfl ?_
    refine g_X14_30 dX14_numberIn_16 rfl (hz.o14 rfl) (hz.r904 rfl) ?_
    refine w_aload_n 0 dX14_numberIn_19 rfl rfl rfl ?_
    refine g_X14_204 dX14_numberIn_20 rfl (hz.o14 rfl) (hz.i905 rfl) ?_
    obtain ⟨g5, hr⟩ := gd hr
    refine w_lald dX14_numberIn_23 rfl (hz.k904 rfl) (gin (hz.n904 rfl) g5) (hz.x904 rfl) ?_
    refine w_lstore_n [(2, .long (zJ ρ2 1928 0 0 (Int32.toNatClampNeg (zI ρ2 905 0 0 0)))), (0, .ref (A 14 0 0)), (1, .int x1)] dX14_numberIn_24 rfl rfl (by decide) rfl ?_
    refine w_aload_n 1 dX14_numberIn_25 rfl rfl rfl ?_
    refine w_lload_n 0 dX14_numberIn_26 rfl rfl rfl ?_
    refine w_iload_n 2 dX14_numberIn_27 rfl rfl rfl ?_
    refine w_i2l dX14_numberIn_28 rfl ?_
    refine w_ldc2 dX14_numberIn_29 rfl k_X14_305 ?_
    obtain ⟨v6, ρ7, e8, hr⟩ := bq_some hr
    refine c_X14_163 (b := 0) (As := [.long (zJ ρ2 1928 0 0 (Int32.toNatClampNeg (zI ρ2 905 0 0 0))), .long ((x1 : Int32).toInt64), .long 1000]) (rest := [.ref (A 14 0 0)]) (fun l => s_X14_isIn  hz e8 l) hrm dX14_numberIn_32 rfl rfl (Nat.le_of_ble_eq_true rfl) (Nat.le_of_ble_eq_true rfl) (Nat.le_of_ble_eq_true rfl) rfl (Nat.le_of_ble_eq_true rfl) (fun vr h2 hq => ?_) (fun E9 h9 hq => hq.elim)
    obtain ⟨rfl, hz⟩ := hq
    show wp _ _ 35 [(2, .long (zJ ρ2 1928 0 0 (Int32.toNatClampNeg (zI ρ2 905 0 0 0)))), (0, .ref (A 14 0 0)), (1, .int x1)] [.int v6, .ref (A 14 0 0)] _ _ _
    refine w_bipush 6 dX14_numberIn_35 rfl rfl ?_
    refine w_aload_n 1 dX14_numberIn_37 rfl rfl rfl ?_
    refine g_X14_27 dX14_numberIn_38 rfl (hz.o14 rfl) (hz.r903 rfl) ?_
    refine w_aload_n 1 dX14_numberIn_41 rfl rfl rfl ?_
    refine g_X14_204 dX14_numberIn_42 rfl (hz.o14 rfl) (hz.i905 rfl) ?_
    obtain ⟨g10, hr⟩ := gd hr
    refine w_iald dX14_numberIn_45 rfl (hz.k903 rfl) (gin (hz.n903 rfl) g10) (hz.x903 rfl) ?_
    obtain ⟨v11, ρ12, e13, hr⟩ := bw_some hr
    rcases v11 with w15e | w15
    · obtain ⟨rfl, rfl⟩ := rete (bw_er hr)
      refine c_X14_277 (As := [.int v6, .int 6, .int (zI ρ7 1927 0 0 (Int32.toNatClampNeg (zI ρ7 905 0 0 0)))]) (rest := []) (fun l => e_X14_must  hz e13 l) hrm dX14_numberIn_46 rfl rfl (Nat.le_of_ble_eq_true rfl) (Nat.le_of_ble_eq_true rfl) (Nat.le_of_ble_eq_true rfl) (hz.o14 rfl) rfl (Nat.le_of_ble_eq_true rfl) (fun vr h2 hq => hq.elim) (fun E9 h9 hq => ?_)
      exact w_out hf (Nat.le_of_ble_eq_true rfl) (Nat.le_of_ble_eq_true rfl) hq
    have hr := bw_ok hr
    refine c_X14_277 (As := [.int v6, .int 6, .int (zI ρ7 1927 0 0 (Int32.toNatClampNeg (zI ρ7 905 0 0 0)))]) (rest := []) (fun l => t_X14_must  hz e13 l) hrm dX14_numberIn_46 rfl rfl (Nat.le_of_ble_eq_true rfl) (Nat.le_of_ble_eq_true rfl) (Nat.le_of_ble_eq_true rfl) (hz.o14 rfl) rfl (Nat.le_of_ble_eq_true rfl) (fun vr h2 hq => ?_) (fun E9 h9 hq => hq.elim)
    obtain ⟨rfl, hz⟩ := hq
    show wp _ _ 49 [(2, .long (zJ ρ2 1928 0 0 (Int32.toNatClampNeg (zI ρ2 905 0 0 0)))), (0, .ref (A 14 0 0)), (1, .int x1)] [] _ _ _
    refine w_aload_n 1 dX14_numberIn_49 rfl rfl rfl ?_
    obtain ⟨v16, ρ17, e18, hr⟩ := bw_some hr
    rcases v16 with w20e | w20
    · obtain ⟨rfl, rfl⟩ := rete (bw_er hr)
      refine c_X14_226 (As := []) (rest := []) (fun l => e_X14_take  hz e18 l) hrm dX14_numberIn_50 rfl rfl (Nat.le_of_ble_eq_true rfl) (Nat.le_of_ble_eq_true rfl) (Nat.le_of_ble_eq_true rfl) (hz.o14 rfl) rfl (Nat.le_of_ble_eq_true rfl) (fun vr h2 hq => hq.elim) (fun E9 h9 hq => ?_)
      exact w_out hf (Nat.le_of_ble_eq_true rfl) (Nat.le_of_ble_eq_true rfl) hq
    have hr := bw_ok hr
    refine c_X14_226 (As := []) (rest := []) (fun l => t_X14_take  hz e18 l) hrm dX14_numberIn_50 rfl rfl (Nat.le_of_ble_eq_true rfl) (Nat.le_of_ble_eq_true rfl) (Nat.le_of_ble_eq_true rfl) (hz.o14 rfl) rfl (Nat.le_of_ble_eq_true rfl) (fun vr h2 hq => ?_) (fun E9 h9 hq => hq.elim)
    obtain ⟨rfl, hz⟩ := hq
    show wp _ _ 53 [(2, .long (zJ ρ2 1928 0 0 (Int32.toNatClampNeg (zI ρ2 905 0 0 0)))), (0, .ref (A 14 0 0)), (1, .int x1)] [] _ _ _
    refine w_lload_n 0 dX14_numberIn_53 rfl rfl rfl ?_
    refine w_ldc2 dX14_numberIn_54 rfl k_X14_305 ?_
    refine w_mlmin hrm (by decide) dX14_numberIn_57 rfl ml_X14_307 (Nat.le_of_ble_eq_true rfl) (Nat.le_of_ble_eq_true rfl) (Nat.le_of_ble_eq_true rfl) ?_
    refine w_l2i dX14_numberIn_60 rfl ?_
    exact noek hr
  · have hr := bt q7 hr
    refine w_aload_n 0 dX14_numberIn_10 rfl rfl rfl ?_
    obtain ⟨w21, ρ22, e23, hr⟩ := bq_some hr
    refine c_X14_219 (As := []) (rest := []) (fun l => s_X14_wrong hz e23 l) hrm dX14_numberIn_11 rfl rfl (Nat.le_of_ble_eq_true rfl) (Nat.le_of_ble_eq_true rfl) (Nat.le_of_ble_eq_true rfl) (hz.o14 rfl) rfl (Nat.le_of_ble_eq_true rfl) (fun vr h2 hq => ?_) (fun E9 h9 hq => hq.elim)
    obtain ⟨q, rfl, hq⟩ := hq
    obtain ⟨rfl, rfl⟩ := rete hr
    show wp _ _ 14 [(0, .ref (A 14 0 0)), (1, .int x1)] [.ref q] _ _ _
    refine w_athrow dX14_numberIn_14 (q := q) hq.1 ?_
    exact w_out hf (Nat.le_of_ble_eq_true rfl) (Nat.le_of_ble_eq_true rfl) hq.gh

set_option maxRecDepth 20000 in
set_option maxHeartbeats 4000000 in
theorem t_X14_newColumn {A : Nat → Nat → Nat → Nat} {h : Hp} {σ ρ ρ' : Zs} {v : Int64}   (hz : Rp A h σ ρ) (hr : fX14_newColumn  ρ = some (.ok v, ρ')) : ∀ l : Launch, Sp l mX14_newColumn 15 0 0 [.ref (A 14 0 0)] h (QJ A v σ ρ') X0 := by
  intro l
  refine Sp.of rfl rfl (lv := [(0, .ref (A 14 0 0))]) (Nat.le_of_ble_eq_true rfl) rfl (fun x hf hrm => ?_)
  rw [fX14_newColumn.eq_1] at hr
  refine w_aload_n 0 dX14_newColumn_0 rfl rfl rfl ?_
  refine w_sipush 200 dX14_newColumn_1 rfl rfl ?_
  obtain ⟨v1, ρ2, e3, hr⟩ := bq_some hr
  refine c_X14_223 (As := [.int 200]) (rest := []) (fun l => s_X14_is  hz e3 l) hrm dX14_newColumn_4 rfl rfl (Nat.le_of_ble_eq_true rfl) (Nat.le_of_ble_eq_true rfl) (Nat.le_of_ble_eq_true rfl) (hz.o14 rfl) rfl (Nat.le_of_ble_eq_true rfl) (fun vr h2 hq => ?_) (fun E9 h9 hq => hq.elim)
  obtain ⟨rfl, hz⟩ := hq
  show wp _ _ 7 [(0, .ref (A 14 0 0))] [.int v1] _ _ _
  refine w_if_ne 15 dX14_newColumn_7 rfl rfl (fun q7 => ?_) (fun q7 => ?_)
  · have hr := bf q7 hr
    refine w_aload_n 0 dX14_newColumn_15 rfl rfl rfl ?_
    refine g_X14_30 dX14_newColumn_16 rfl (hz.o14 rfl) (hz.r904 rfl) ?_
    refine w_aload_n 0 dX14_newColumn_19 rfl rfl rfl ?_
    refine g_X14_204 dX14_newColumn_20 rfl (hz.o14 rfl) (hz.i905 rfl) ?_
    obtain ⟨g5, hr⟩ := gd hr
    refine w_lald dX14_newColumn_23 rfl (hz.k904 rfl) (gin (hz.n904 rfl) g5) (hz.x904 rfl) ?_
    refine w_lstore_n [(1, .long (zJ ρ2 1928 0 0 (Int32.toNatClampNeg (zI ρ2 905 0 0 0)))), (0, .ref (A 14 0 0))] dX14_newColumn_24 rfl rfl (by decide) rfl ?_
    refine w_aload_n 1 dX14_newColumn_25 rfl rfl rfl ?_
    refine w_aload_n 1 dX14_newColumn_26 rfl rfl rfl ?_
    refine g_X14_33 dX14_newColumn_27 rfl (hz.o14 rfl) (hz.r912 rfl) ?_
    refine w_iconst 0 dX14_newColumn_30 rfl rfl ?_
    refine w_aload_n 1 dX14_newColumn_31 rfl rfl rfl ?_
    refine g_X14_313 dX14_newColumn_32 rfl (hz.o14 rfl) (hz.i911 rfl) ?_
    refine w_lload_n 0 dX14_newColumn_35 rfl rfl rfl ?_
    obtain ⟨v6, ρ7, e8, hr⟩ := bq_some hr
    refine c_X14_192 (b := 0) (As := [.ref (A 1936 0 0), .int 0, .int (zI ρ2 911 0 0 0), .long (zJ ρ2 1928 0 0 (Int32.toNatClampNeg (zI ρ2 905 0 0 0)))]) (rest := [.ref (A 14 0 0)]) (fun l => s_X14_indexOf (aok_912 rfl) rfl hz e8 l) hrm dX14_newColumn_36 rfl rfl (Nat.le_of_ble_eq_true rfl) (Nat.le_of_ble_eq_true rfl) (Nat.le_of_ble_eq_true rfl) rfl (Nat.le_of_ble_eq_true rfl) (fun vr h2 hq => ?_) (fun E9 h9 hq => hq.elim)
    obtain ⟨rfl, hz⟩ := hq
    show wp _ _ 39 [(1, .long (zJ ρ2 1928 0 0 (Int32.toNatClampNeg (zI ρ2 905 0 0 0)))), (0, .ref (A 14 0 0))] [.int v6, .ref (A 14 0 0)] _ _ _
    refine w_iconst (-1) dX14_newColumn_39 rfl rfl ?_
    refine w_icmp_ne 47 dX14_newColumn_40 rfl rfl (fun q40 => ?_) (fun q40 => ?_)
    · have hr := bf q40 hr
      refine w_iconst 0 dX14_newColumn_47 rfl rfl ?_
      refine w_iconst 5 dX14_newColumn_48 rfl rfl ?_
      refine w_aload_n 1 dX14_newColumn_49 rfl rfl rfl ?_
      refine g_X14_27 dX14_newColumn_50 rfl (hz.o14 rfl) (hz.r903 rfl) ?_
      refine w_aload_n 1 dX14_newColumn_53 rfl rfl rfl ?_
      refine g_X14_204 dX14_newColumn_54 rfl (hz.o14 rfl) (hz.i905 rfl) ?_
      obtain ⟨g10, hr⟩ := gd hr
      refine w_iald dX14_newColumn_57 rfl (hz.k903 rfl) (gin (hz.n903 rfl) g10) (hz.x903 rfl) ?_
      obtain ⟨v11, ρ12, e13, hr⟩ := bw_some hr
      rcases v11 with w15e | w15
      · exact noko (bw_er hr)
      have hr := bw_ok hr
      refine c_X14_277 (As := [.int 0, .int 5, .int (zI ρ7 1927 0 0 (Int32.toNatClampNeg (zI ρ7 905 0 0 0)))]) (rest := []) (fun l => t_X14_must  hz e13 l) hrm dX14_newColumn_58 rfl rfl (Nat.le_of_ble_eq_true rfl) (Nat.le_of_ble_eq_true rfl) (Nat.le_of_ble_eq_true rfl) (hz.o14 rfl) rfl (Nat.le_of_ble_eq_true rfl) (fun vr h2 hq => ?_) (fun E9 h9 hq => hq.elim)
      obtain ⟨rfl, hz⟩ := hq
      show wp _ _ 61 [(1, .long (zJ ρ2 1928 0 0 (Int32.toNatClampNeg (zI ρ2 905 0 0 0)))), (0, .ref (A 14 0 0))] [] _ _ _
      refine w_aload_n 1 dX14_newColumn_61 rfl rfl rfl ?_
      obtain ⟨v16, ρ17, e18, hr⟩ := bw_some hr
      rcases v16 with w20e | w20
      · exact noko (bw_er hr)
      have hr := bw_ok hr
      refine c_X14_226 (As := []) (rest := []) (fun l => t_X14_take  hz e18 l) hrm dX14_newColumn_62 rfl rfl (Nat.le_of_ble_eq_true rfl) (Nat.le_of_ble_eq_true rfl) (Nat.le_of_ble_eq_true rfl) (hz.o14 rfl) rfl (Nat.le_of_ble_eq_true rfl) (fun vr h2 hq => ?_) (fun E9 h9 hq => hq.elim)
      obtain ⟨rfl, hz⟩ := hq
      show wp _ _ 65 [(1, .long (zJ ρ2 1928 0 0 (Int32.toNatClampNeg (zI ρ2 905 0 0 0)))), (0, .ref (A 14 0 0))] [] _ _ _
      refine w_lload_n 0 dX14_newColumn_65 rfl rfl rfl ?_
      refine w_lret hf dX14_newColumn_66 rfl (Nat.le_of_ble_eq_true rfl) (Nat.le_of_ble_eq_true rfl) ?_
      obtain ⟨rfl, rfl⟩ := retw hr
      exact ⟨rfl, hz⟩
    · have hr := bt q40 hr
      refine w_iconst 1 dX14_newColumn_43 rfl rfl ?_
      refine w_goto 48 dX14_newColumn_44 rfl ?_
      refine w_iconst 5 dX14_newColumn_48 rfl rfl ?_
      refine w_aload_n 1 dX14_newColumn_49 rfl rfl rfl ?_
      refine g_X14_27 dX14_newColumn_50 rfl (hz.o14 rfl) (hz.r903 rfl) ?_
      refine w_aload_n 1 dX14_newColumn_53 rfl rfl rfl ?_
      refine g_X14_204 dX14_newColumn_54 rfl (hz.o14 rfl) (hz.i905 rfl) ?_
      obtain ⟨g21, hr⟩ := gd hr
      refine w_iald dX14_newColumn_57 rfl (hz.k903 rfl) (gin (hz.n903 rfl) g21) (hz.x903 rfl) ?_
      obtain ⟨v22, ρ23, e24, hr⟩ := bw_some hr
      rcases v22 with w26e | w26
      · exact noko (bw_er hr)
      have hr := bw_ok hr
      refine c_X14_277 (As := [.int 1, .int 5, .int (zI ρ7 1927 0 0 (Int32.toNatClampNeg (zI ρ7 905 0 0 0)))]) (rest := []) (fun l => t_X14_must  hz e24 l) hrm dX14_newColumn_58 rfl rfl (Nat.le_of_ble_eq_true rfl) (Nat.le_of_ble_eq_true rfl) (Nat.le_of_ble_eq_true rfl) (hz.o14 rfl) rfl (Nat.le_of_ble_eq_true rfl) (fun vr h2 hq => ?_) (fun E9 h9 hq => hq.elim)
      obtain ⟨rfl, hz⟩ := hq
      show wp _ _ 61 [(1, .long (zJ ρ2 1928 0 0 (Int32.toNatClampNeg (zI ρ2 905 0 0 0)))), (0, .ref (A 14 0 0))] [] _ _ _
      refine w_aload_n 1 dX14_newColumn_61 rfl rfl rfl ?_
      obtain ⟨v27, ρ28, e29, hr⟩ := bw_some hr
      rcases v27 with w31e | w31
      · exact noko (bw_er hr)
      have hr := bw_ok hr
      refine c_X14_226 (As := []) (rest := []) (fun l => t_X14_take  hz e29 l) hrm dX14_newColumn_62 rfl rfl (Nat.le_of_ble_eq_true rfl) (Nat.le_of_ble_eq_true rfl) (Nat.le_of_ble_eq_true rfl) (hz.o14 rfl) rfl (Nat.le_of_ble_eq_true rfl) (fun vr h2 hq => ?_) (fun E9 h9 hq => hq.elim)
      obtain ⟨rfl, hz⟩ := hq
      show wp _ _ 65 [(1, .long (zJ ρ2 1928 0 0 (Int32.toNatClampNeg (zI ρ2 905 0 0 0)))), (0, .ref (A 14 0 0))] [] _ _ _
      refine w_lload_n 0 dX14_newColumn_65 rfl rfl rfl ?_
      refine w_lret hf dX14_newColumn_66 rfl (Nat.le_of_ble_eq_true rfl) (Nat.le_of_ble_eq_true rfl) ?_
      obtain ⟨rfl, rfl⟩ := retw hr
      exact ⟨rfl, hz⟩
  · have hr := bt q7 hr
    refine w_aload_n 0 dX14_newColumn_10 rfl rfl rfl ?_
    obtain ⟨w32, ρ33, e34, hr⟩ := bq_some hr
    exact noko hr

set_option maxRecDepth 20000 in
set_option maxHeartbeats 4000000 in
theorem e_X14_newColumn {A : Nat → Nat → Nat → Nat} {h : Hp} {σ ρ ρ' : Zs} {v : Int32 × Int32}   (hz : Rp A h σ ρ) (hr : fX14_newColumn  ρ = some (.error v, ρ')) : ∀ l : Launch, Sp l mX14_newColumn 15 1 8 [.ref (A 14 0 0)] h QF (XW A v σ ρ') := by
  intro l
  refine Sp.of rfl rfl (lv := [(0, .ref (A 14 0 0))]) (Nat.le_of_ble_eq_true rfl) rfl (fun x hf hrm => ?_)
  rw [fX14_newColumn.eq_1] at hr
  refine w_aload_n 0 dX14_newColumn_0 rfl rfl rfl ?_
  refine w_sipush 200 dX14_newColumn_1 rfl rfl ?_
  obtain ⟨v1, ρ2, e3, hr⟩ := bq_some hr
  refine c_X14_223 (As := [.int 200]) (rest := []) (fun l => s_X14_is  hz e3 l) hrm dX14_newColumn_4 rfl rfl (Nat.le_of_ble_eq_true rfl) (Nat.le_of_ble_eq_true rfl) (Nat.le_of_ble_eq_true rfl) (hz.o14 rfl) rfl (Nat.le_of_ble_eq_true rfl) (fun vr h2 hq => ?_) (fun E9 h9 hq => hq.elim)
  obtain ⟨rfl, hz⟩ := hq
  show wp _ _ 7 [(0, .ref (A 14 0 0))] [.int v1] _ _ _
  refine w_if_ne 15 dX14_newColumn_7 rfl rfl (fun q7 => ?_) (fun q7 => ?_)
  · have hr := bf q7 hr
    refine w_aload_n 0 dX14_newColumn_15 rfl rfl rfl ?_
    refine g_X14_30 dX14_newColumn_16 rfl (hz.o14 rfl) (hz.r904 rfl) ?_
    refine w_aload_n 0 dX14_newColumn_19 rfl rfl rfl ?_
    refine g_X14_204 dX14_newColumn_20 rfl (hz.o14 rfl) (hz.i905 rfl) ?_
    obtain ⟨g5, hr⟩ := gd hr
    refine w_lald dX14_newColumn_23 rfl (hz.k904 rfl) (gin (hz.n904 rfl) g5) (hz.x904 rfl) ?_
    refine w_lstore_n [(1, .long (zJ ρ2 1928 0 0 (Int32.toNatClampNeg (zI ρ2 905 0 0 0)))), (0, .ref (A 14 0 0))] dX14_newColumn_24 rfl rfl (by decide) rfl ?_
    refine w_aload_n 1 dX14_newColumn_25 rfl rfl rfl ?_
    refine w_aload_n 1 dX14_newColumn_26 rfl rfl rfl ?_
    refine g_X14_33 dX14_newColumn_27 rfl (hz.o14 rfl) (hz.r912 rfl) ?_
    refine w_iconst 0 dX14_newColumn_30 rfl rfl ?_
    refine w_aload_n 1 dX14_newColumn_31 rfl rfl rfl ?_
    refine g_X14_313 dX14_newColumn_32 rfl (hz.o14 rfl) (hz.i911 rfl) ?_
    refine w_lload_n 0 dX14_newColumn_35 rfl rfl rfl ?_
    obtain ⟨v6, ρ7, e8, hr⟩ := bq_some hr
    refine c_X14_192 (b := 0) (As := [.ref (A 1936 0 0), .int 0, .int (zI ρ2 911 0 0 0), .long (zJ ρ2 1928 0 0 (Int32.toNatClampNeg (zI ρ2 905 0 0 0)))]) (rest := [.ref (A 14 0 0)]) (fun l => s_X14_indexOf (aok_912 rfl) rfl hz e8 l) hrm dX14_newColumn_36 rfl rfl (Nat.le_of_ble_eq_true rfl) (Nat.le_of_ble_eq_true rfl) (Nat.le_of_ble_eq_true rfl) rfl (Nat.le_of_ble_eq_true rfl) (fun vr h2 hq => ?_) (fun E9 h9 hq => hq.elim)
    obtain ⟨rfl, hz⟩ := hq
    show wp _ _ 39 [(1, .long (zJ ρ2 1928 0 0 (Int32.toNatClampNeg (zI ρ2 905 0 0 0)))), (0, .ref (A 14 0 0))] [.int v6, .ref (A 14 0 0)] _ _ _
    refine w_iconst (-1) dX14_newColumn_39 rfl rfl ?_
    refine w_icmp_ne 47 dX14_newColumn_40 rfl rfl (fun q40 => ?_) (fun q40 => ?_)
    · have hr := bf q40 hr
      refine w_iconst 0 dX14_newColumn_47 rfl rfl ?_
      refine w_iconst 5 dX14_newColumn_48 rfl rfl ?_
      refine w_aload_n 1 dX14_newColumn_49 rfl rfl rfl ?_
      refine g_X14_27 dX14_newColumn_50 rfl (hz.o14 rfl) (hz.r903 rfl) ?_
      refine w_aload_n 1 dX14_newColumn_53 rfl rfl rfl ?_
      refine g_X14_204 dX14_newColumn_54 rfl (hz.o14 rfl) (hz.i905 rfl) ?_
      obtain ⟨g10, hr⟩ := gd hr
      refine w_iald dX14_newColumn_57 rfl (hz.k903 rfl) (gin (hz.n903 rfl) g10) (hz.x903 rfl) ?_
      obtain ⟨v11, ρ12, e13, hr⟩ := bw_some hr
      rcases v11 with w15e | w15
      · obtain ⟨rfl, rfl⟩ := rete (bw_er hr)
        refine c_X14_277 (As := [.int 0, .int 5, .int (zI ρ7 1927 0 0 (Int32.toNatClampNeg (zI ρ7 905 0 0 0)))]) (rest := []) (fun l => e_X14_must  hz e13 l) hrm dX14_newColumn_58 rfl rfl (Nat.le_of_ble_eq_true rfl) (Nat.le_of_ble_eq_true rfl) (Nat.le_of_ble_eq_true rfl) (hz.o14 rfl) rfl (Nat.le_of_ble_eq_true rfl) (fun vr h2 hq => hq.elim) (fun E9 h9 hq => ?_)
        exact w_out hf (Nat.le_of_ble_eq_true rfl) (Nat.le_of_ble_eq_true rfl) hq
      have hr := bw_ok hr
      refine c_X14_277 (As := [.int 0, .int 5, .int (zI ρ7 1927 0 0 (Int32.toNatClampNeg (zI ρ7 905 0 0 0)))]) (rest := []) (fun l => t_X14_must  hz e13 l) hrm dX14_newColumn_58 rfl rfl (Nat.le_of_ble_eq_true rfl) (Nat.le_of_ble_eq_true rfl) (Nat.le_of_ble_eq_true rfl) (hz.o14 rfl) rfl (Nat.le_of_ble_eq_true rfl) (fun vr h2 hq => ?_) (fun E9 h9 hq => hq.elim)
      obtain ⟨rfl, hz⟩ := hq
      show wp _ _ 61 [(1, .long (zJ ρ2 1928 0 0 (Int32.toNatClampNeg (zI ρ2 905 0 0 0)))), (0, .ref (A 14 0 0))] [] _ _ _
      refine w_aload_n 1 dX14_newColumn_61 rfl rfl rfl ?_
      obtain ⟨v16, ρ17, e18, hr⟩ := bw_some hr
      rcases v16 with w20e | w20
      · obtain ⟨rfl, rfl⟩ := rete (bw_er hr)
        refine c_X14_226 (As := []) (rest := []) (fun l => e_X14_take  hz e18 l) hrm dX14_newColumn_62 rfl rfl (Nat.le_of_ble_eq_true rfl) (Nat.le_of_ble_eq_true rfl) (Nat.le_of_ble_eq_true rfl) (hz.o14 rfl) rfl (Nat.le_of_ble_eq_true rfl) (fun vr h2 hq => hq.elim) (fun E9 h9 hq => ?_)
        exact w_out hf (Nat.le_of_ble_eq_true rfl) (Nat.le_of_ble_eq_true rfl) hq
      have hr := bw_ok hr
      refine c_X14_226 (As := []) (rest := []) (fun l => t_X14_take  hz e18 l) hrm dX14_newColumn_62 rfl rfl (Nat.le_of_ble_eq_true rfl) (Nat.le_of_ble_eq_true rfl) (Nat.le_of_ble_eq_true rfl) (hz.o14 rfl) rfl (Nat.le_of_ble_eq_true rfl) (fun vr h2 hq => ?_) (fun E9 h9 hq => hq.elim)
      obtain ⟨rfl, hz⟩ := hq
      show wp _ _ 65 [(1, .long (zJ ρ2 1928 0 0 (Int32.toNatClampNeg (zI ρ2 905 0 0 0)))), (0, .ref (A 14 0 0))] [] _ _ _
      refine w_lload_n 0 dX14_newColumn_65 rfl rfl rfl ?_
      exact noek hr
    · have hr := bt q40 hr
      refine w_iconst 1 dX14_newColumn_43 rfl rfl ?_
      refine w_goto 48 dX14_newColumn_44 rfl ?_
      refine w_iconst 5 dX14_newColumn_48 rfl rfl ?_
      refine w_aload_n 1 dX14_newColumn_49 rfl rfl rfl ?_
      refine g_X14_27 dX14_newColumn_50 rfl (hz.o14 rfl) (hz.r903 rfl) ?_
      refine w_aload_n 1 dX14_newColumn_53 rfl rfl rfl ?_
      refine g_X14_204 dX14_newColumn_54 rfl (hz.o14 rfl) (hz.i905 rfl) ?_
      obtain ⟨g21, hr⟩ := gd hr
      refine w_iald dX14_newColumn_57 rfl (hz.k903 rfl) (gin (hz.n903 rfl) g21) (hz.x903 rfl) ?_
      obtain ⟨v22, ρ23, e24, hr⟩ := bw_some hr
      rcases v22 with w26e | w26
      · obtain ⟨rfl, rfl⟩ := rete (bw_er hr)
        refine c_X14_277 (As := [.int 1, .int 5, .int (zI ρ7 1927 0 0 (Int32.toNatClampNeg (zI ρ7 905 0 0 0)))]) (rest := []) (fun l => e_X14_must  hz e24 l) hrm dX14_newColumn_58 rfl rfl (Nat.le_of_ble_eq_true rfl) (Nat.le_of_ble_eq_true rfl) (Nat.le_of_ble_eq_true rfl) (hz.o14 rfl) rfl (Nat.le_of_ble_eq_true rfl) (fun vr h2 hq => hq.elim) (fun E9 h9 hq => ?_)
        exact w_out hf (Nat.le_of_ble_eq_true rfl) (Nat.le_of_ble_eq_true rfl) hq
      have hr := bw_ok hr
      refine c_X14_277 (As := [.int 1, .int 5, .int (zI ρ7 1927 0 0 (Int32.toNatClampNeg (zI ρ7 905 0 0 0)))]) (rest := []) (fun l => t_X14_must  hz e24 l) hrm dX14_newColumn_58 rfl rfl (Nat.le_of_ble_eq_true rfl) (Nat.le_of_ble_eq_true rfl) (Nat.le_of_ble_eq_true rfl) (hz.o14 rfl) rfl (Nat.le_of_ble_eq_true rfl) (fun vr h2 hq => ?_) (fun E9 h9 hq => hq.elim)
      obtain ⟨rfl, hz⟩ := hq
      show wp _ _ 61 [(1, .long (zJ ρ2 1928 0 0 (Int32.toNatClampNeg (zI ρ2 905 0 0 0)))), (0, .ref (A 14 0 0))] [] _ _ _
      refine w_aload_n 1 dX14_newColumn_61 rfl rfl rfl ?_
      obtain ⟨v27, ρ28, e29, hr⟩ := bw_some hr
      rcases v27 with w31e | w31
      · obtain ⟨rfl, rfl⟩ := rete (bw_er hr)
        refine c_X14_226 (As := []) (rest := []) (fun l => e_X14_take  hz e29 l) hrm dX14_newColumn_62 rfl rfl (Nat.le_of_ble_eq_true rfl) (Nat.le_of_ble_eq_true rfl) (Nat.le_of_ble_eq_true rfl) (hz.o14 rfl) rfl (Nat.le_of_ble_eq_true rfl) (fun vr h2 hq => hq.elim) (fun E9 h9 hq => ?_)
        exact w_out hf (Nat.le_of_ble_eq_true rfl) (Nat.le_of_ble_eq_true rfl) hq
      have hr := bw_ok hr
      refine c_X14_226 (As := []) (rest := []) (fun l => t_X14_take  hz e29 l) hrm dX14_newColumn_62 rfl rfl (Nat.le_of_ble_eq_true rfl) (Nat.le_of_ble_eq_true rfl) (Nat.le_of_ble_eq_true rfl) (hz.o14 rfl) rfl (Nat.le_of_ble_eq_true rfl) (fun vr h2 hq => ?_) (fun E9 h9 hq => hq.elim)
      obtain ⟨rfl, hz⟩ := hq
      show wp _ _ 65 [(1, .long (zJ ρ2 1928 0 0 (Int32.toNatClampNeg (zI ρ2 905 0 0 0)))), (0, .ref (A 14 0 0))] [] _ _ _
      refine w_lload_n 0 dX14_newColumn_65 rfl rfl rfl ?_
      exact noek hr
  · have hr := bt q7 hr
    refine w_aload_n 0 dX14_newColumn_10 rfl rfl rfl ?_
    obtain ⟨w32, ρ33, e34, hr⟩ := bq_some hr
    refine c_X14_219 (As := []) (rest := []) (fun l => s_X14_wrong hz e34 l) hrm dX14_newColumn_11 rfl rfl (Nat.le_of_ble_eq_true rfl) (Nat.le_of_ble_eq_true rfl) (Nat.le_of_ble_eq_true rfl) (hz.o14 rfl) rfl (Nat.le_of_ble_eq_true rfl) (fun vr h2 hq => ?_) (fun E9 h9 hq => hq.elim)
    obtain ⟨q, rfl, hq⟩ := hq
    obtain ⟨rfl, rfl⟩ := rete hr
    show wp _ _ 14 [(0, .ref (A 14 0 0))] [.ref q] _ _ _
    refine w_athrow dX14_newColumn_14 (q := q) hq.1 ?_
    exact w_out hf (Nat.le_of_ble_eq_true rfl) (Nat.le_of_ble_eq_true rfl) hq.gh

set_option maxRecDepth 20000 in
set_option maxHeartbeats 4000000 in
theorem t_X14_makeOne {A : Nat → Nat → Nat → Nat} {h : Hp} {σ ρ ρ' : Zs} {v : Unit}   (hz : Rp A h σ ρ) (hr : fX14_makeOne  ρ = some (.ok v, ρ')) : ∀ l : Launch, Sp l mX14_makeOne 97 0 0 [.ref (A 14 0 0)] h (QV A v σ ρ') X0 := by
  intro l
  refine Sp.of rfl rfl (lv := [(0, .ref (A 14 0 0))]) (Nat.le_of_ble_eq_true rfl) rfl (fun x hf hrm => ?_)
  rw [fX14_makeOne.eq_1] at hr
  refine w_aload_n 0 dX14_makeOne_0 rfl rfl rfl ?_
  obtain ⟨v1, ρ2, e3, hr⟩ := bw_some hr
  rcases v1 with w5e | w5
  · exact noko (bw_er hr)
  have hr := bw_ok hr
  refine c_X14_364 (As := []) (rest := []) (fun l => t_X14_newColumn  hz e3 l) hrm dX14_makeOne_1 rfl rfl (Nat.le_of_ble_eq_true rfl) (Nat.le_of_ble_eq_true rfl) (Nat.le_of_ble_eq_true rfl) (hz.o14 rfl) rfl (Nat.le_of_ble_eq_true rfl) (fun vr h2 hq => ?_) (fun E9 h9 hq => hq.elim)
  obtain ⟨rfl, hz⟩ := hq
  show wp _ _ 4 [(0, .ref (A 14 0 0))] [.long w5] _ _ _
  refine w_lstore_n [(1, .long w5), (0, .ref (A 14 0 0))] dX14_makeOne_4 rfl rfl (by decide) rfl ?_
  refine w_aload_n 1 dX14_makeOne_5 rfl rfl rfl ?_
  refine w_bipush 104 dX14_makeOne_6 rfl rfl ?_
  obtain ⟨v6, ρ7, e8, hr⟩ := bw_some hr
  rcases v6 with w10e | w10
  · exact noko (bw_er hr)
  have hr := bw_ok hr
  refine c_X14_284 (As := [.int 104]) (rest := []) (fun l => t_X14_take_  hz e8 l) hrm dX14_makeOne_8 rfl rfl (Nat.le_of_ble_eq_true rfl) (Nat.le_of_ble_eq_true rfl) (Nat.le_of_ble_eq_true rfl) (hz.o14 rfl) rfl (Nat.le_of_ble_eq_true rfl) (fun vr h2 hq => ?_) (fun E9 h9 hq => hq.elim)
  obtain ⟨rfl, hz⟩ := hq
  show wp _ _ 11 [(1, .long w5), (0, .ref (A 14 0 0))] [] _ _ _
  refine w_aload_n 1 dX14_makeOne_11 rfl rfl rfl ?_
  refine w_lload_n 0 dX14_makeOne_12 rfl rfl rfl ?_
  refine w_aload_n 1 dX14_makeOne_13 rfl rfl rfl ?_
  obtain ⟨v11, ρ12, e13, hr⟩ := bw_some hr
  rcases v11 with w15e | w15
  · exact noko (bw_er hr)
  have hr := bw_ok hr
  refine c_X14_348 (As := []) (rest := [.long w5, .ref (A 14 0 0)]) (fun l => t_X14_whole  hz e13 l) hrm dX14_makeOne_14 rfl rfl (Nat.le_of_ble_eq_true rfl) (Nat.le_of_ble_eq_true rfl) (Nat.le_of_ble_eq_true rfl) (hz.o14 rfl) rfl (Nat.le_of_ble_eq_true rfl) (fun vr h2 hq => ?_) (fun E9 h9 hq => hq.elim)
  obtain ⟨rfl, hz⟩ := hq
  show wp _ _ 17 [(1, .long w5), (0, .ref (A 14 0 0))] [.int w15, .long w5, .ref (A 14 0 0)] _ _ _
  refine w_iconst 1 dX14_makeOne_17 rfl rfl ?_
  obtain ⟨v16, ρ17, e18, hr⟩ := bq_some hr
  refine c_X14_316 (As := [.long w5, .int w15, .int 1]) (rest := []) (fun l => s_X14_say  hz e18 l) hrm dX14_makeOne_18 rfl rfl (Nat.le_of_ble_eq_true rfl) (Nat.le_of_ble_eq_true rfl) (Nat.le_of_ble_eq_true rfl) (hz.o14 rfl) rfl (Nat.le_of_ble_eq_true rfl) (fun vr h2 hq => ?_) (fun E9 h9 hq => hq.elim)
  obtain ⟨rfl, hz⟩ := hq
  show wp _ _ 21 [(1, .long w5), (0, .ref (A 14 0 0))] [] _ _ _
  refine w_vret hf dX14_makeOne_21 rfl (Nat.le_of_ble_eq_true rfl) (Nat.le_of_ble_eq_true rfl) ?_
  obtain ⟨rfl, rfl⟩ := retw hr
  exact ⟨rfl, hz⟩

set_option maxRecDepth 20000 in
set_option maxHeartbeats 4000000 in
theorem e_X14_makeOne {A : Nat → Nat → Nat → Nat} {h : Hp} {σ ρ ρ' : Zs} {v : Int32 × Int32}   (hz : Rp A h σ ρ) (hr : fX14_makeOne  ρ = some (.error v, ρ')) : ∀ l : Launch, Sp l mX14_makeOne 97 1 8 [.ref (A 14 0 0)] h QF (XW A v σ ρ') := by
  intro l
  refine Sp.of rfl rfl (lv := [(0, .ref (A 14 0 0))]) (Nat.le_of_ble_eq_true rfl) rfl (fun x hf hrm => ?_)
  rw [fX14_makeOne.eq_1] at hr
  refine w_aload_n 0 dX14_makeOne_0 rfl rfl rfl ?_
  obtain ⟨v1, ρ2, e3, hr⟩ := bw_some hr
  rcases v1 with w5e | w5
  · obtain ⟨rfl, rfl⟩ := rete (bw_er hr)
    refine c_X14_364 (As := []) (rest := []) (fun l => e_X14_newColumn  hz e3 l) hrm dX14_makeOne_1 rfl rfl (Nat.le_of_ble_eq_true rfl) (Nat.le_of_ble_eq_true rfl) (Nat.le_of_ble_eq_true rfl) (hz.o14 rfl) rfl (Nat.le_of_ble_eq_true rfl) (fun vr h2 hq => hq.elim) (fun E9 h9 hq => ?_)
    exact w_out hf (Nat.le_of_ble_eq_true rfl) (Nat.le_of_ble_eq_true rfl) hq
  have hr := bw_ok hr
  refine c_X14_364 (As := []) (rest := []) (fun l => t_X14_newColumn  hz e3 l) hrm dX14_makeOne_1 rfl rfl (Nat.le_of_ble_eq_true rfl) (Nat.le_of_ble_eq_true rfl) (Nat.le_of_ble_eq_true rfl) (hz.o14 rfl) rfl (Nat.le_of_ble_eq_true rfl) (fun vr h2 hq => ?_) (fun E9 h9 hq => hq.elim)
  obtain ⟨rfl, hz⟩ := hq
  show wp _ _ 4 [(0, .ref (A 14 0 0))] [.long w5] _ _ _
  refine w_lstore_n [(1, .long w5), (0, .ref (A 14 0 0))] dX14_makeOne_4 rfl rfl (by decide) rfl ?_
  refine w_aload_n 1 dX14_makeOne_5 rfl rfl rfl ?_
  refine w_bipush 104 dX14_makeOne_6 rfl rfl ?_
  obtain ⟨v6, ρ7, e8, hr⟩ := bw_some hr
  rcases v6 with w10e | w10
  · obtain ⟨rfl, rfl⟩ := rete (bw_er hr)
    refine c_X14_284 (As := [.int 104]) (rest := []) (fun l => e_X14_take_  hz e8 l) hrm dX14_makeOne_8 rfl rfl (Nat.le_of_ble_eq_true rfl) (Nat.le_of_ble_eq_true rfl) (Nat.le_of_ble_eq_true rfl) (hz.o14 rfl) rfl (Nat.le_of_ble_eq_true rfl) (fun vr h2 hq => hq.elim) (fun E9 h9 hq => ?_)
    exact w_out hf (Nat.le_of_ble_eq_true rfl) (Nat.le_of_ble_eq_true rfl) hq
  have hr := bw_ok hr
  refine c_X14_284 (As := [.int 104]) (rest := []) (fun l => t_X14_take_  hz e8 l) hrm dX14_makeOne_8 rfl rfl (Nat.le_of_ble_eq_true rfl) (Nat.le_of_ble_eq_true rfl) (Nat.le_of_ble_eq_true rfl) (hz.o14 rfl) rfl (Nat.le_of_ble_eq_true rfl) (fun vr h2 hq => ?_) (fun E9 h9 hq => hq.elim)
  obtain ⟨rfl, hz⟩ := hq
  show wp _ _ 11 [(1, .long w5), (0, .ref (A 14 0 0))] [] _ _ _
  refine w_aload_n 1 dX14_makeOne_11 rfl rfl rfl ?_
  refine w_lload_n 0 dX14_makeOne_12 rfl rfl rfl ?_
  refine w_aload_n 1 dX14_makeOne_13 rfl rfl rfl ?_
  obtain ⟨v11, ρ12, e13, hr⟩ := bw_some hr
  rcases v11 with w15e | w15
  · obtain ⟨rfl, rfl⟩ := rete (bw_er hr)
    refine c_X14_348 (As := []) (rest := [.long w5, .ref (A 14 0 0)]) (fun l => e_X14_whole  hz e13 l) hrm dX14_makeOne_14 rfl rfl (Nat.le_of_ble_eq_true rfl) (Nat.le_of_ble_eq_true rfl) (Nat.le_of_ble_eq_true rfl) (hz.o14 rfl) rfl (Nat.le_of_ble_eq_true rfl) (fun vr h2 hq => hq.elim) (fun E9 h9 hq => ?_)
    exact w_out hf (Nat.le_of_ble_eq_true rfl) (Nat.le_of_ble_eq_true rfl) hq
  have hr := bw_ok hr
  refine c_X14_348 (As := []) (rest := [.long w5, .ref (A 14 0 0)]) (fun l => t_X14_whole  hz e13 l) hrm dX14_makeOne_14 rfl rfl (Nat.le_of_ble_eq_true rfl) (Nat.le_of_ble_eq_true rfl) (Nat.le_of_ble_eq_true rfl) (hz.o14 rfl) rfl (Nat.le_of_ble_eq_true rfl) (fun vr h2 hq => ?_) (fun E9 h9 hq => hq.elim)
  obtain ⟨rfl, hz⟩ := hq
  show wp _ _ 17 [(1, .long w5), (0, .ref (A 14 0 0))] [.int w15, .long w5, .ref (A 14 0 0)] _ _ _
  refine w_iconst 1 dX14_makeOne_17 rfl rfl ?_
  obtain ⟨v16, ρ17, e18, hr⟩ := bq_some hr
  refine c_X14_316 (As := [.long w5, .int w15, .int 1]) (rest := []) (fun l => s_X14_say  hz e18 l) hrm dX14_makeOne_18 rfl rfl (Nat.le_of_ble_eq_true rfl) (Nat.le_of_ble_eq_true rfl) (Nat.le_of_ble_eq_true rfl) (hz.o14 rfl) rfl (Nat.le_of_ble_eq_true rfl) (fun vr h2 hq => ?_) (fun E9 h9 hq => hq.elim)
  obtain ⟨rfl, hz⟩ := hq
  show wp _ _ 21 [(1, .long w5), (0, .ref (A 14 0 0))] [] _ _ _
  exact noek hr

set_option maxRecDepth 20000 in
set_option maxHeartbeats 4000000 in
theorem u_X14_pickOne_52 {A : Nat → Nat → Nat → Nat} {σ ρ' : Zs} {v : Unit} {x : Cxt} {x1 : Int32}  (hf : m_fin 0 0 (QV A v σ ρ') X0 x) (hrm : m_rm 16 0 0 x)  : ∀ (y2 : Int32) (z0 : Int32) (ρ : Zs) (h : Hp), Rp A h σ ρ → fX14_pickOne_52 x1  y2 z0 ρ = some (.ok v, ρ') → wp x mX14_pickOne 52 [(0, .ref (A 14 0 0)), (1, .int x1), (2, .int y2)] [.int z0, .ref (A 14 0 0)] h 0 0 := by
  intro y2 z0 ρ h hz hr
  rw [fX14_pickOne_52.eq_1] at hr
  refine w_iconst 2 dX14_pickOne_52 rfl rfl ?_
  refine w_aload_n 0 dX14_pickOne_53 rfl rfl rfl ?_
  refine g_X14_27 dX14_pickOne_54 rfl (hz.o14 rfl) (hz.r903 rfl) ?_
  refine w_aload_n 0 dX14_pickOne_57 rfl rfl rfl ?_
  refine g_X14_204 dX14_pickOne_58 rfl (hz.o14 rfl) (hz.i905 rfl) ?_
  obtain ⟨g5, hr⟩ := gd hr
  refine w_iald dX14_pickOne_61 rfl (hz.k903 rfl) (gin (hz.n903 rfl) g5) (hz.x903 rfl) ?_
  obtain ⟨v6, ρ7, e8, hr⟩ := bw_some hr
  rcases v6 with w10e | w10
  · exact noko (bw_er hr)
  have hr := bw_ok hr
  refine c_X14_277 (As := [.int z0, .int 2, .int (zI ρ 1927 0 0 (Int32.toNatClampNeg (zI ρ 905 0 0 0)))]) (rest := []) (fun l => t_X14_must  hz e8 l) hrm dX14_pickOne_62 rfl rfl (Nat.le_of_ble_eq_true rfl) (Nat.le_of_ble_eq_true rfl) (Nat.le_of_ble_eq_true rfl) (hz.o14 rfl) rfl (Nat.le_of_ble_eq_true rfl) (fun vr h2 hq => ?_) (fun E9 h9 hq => hq.elim)
  obtain ⟨rfl, hz⟩ := hq
  show wp _ _ 65 [(0, .ref (A 14 0 0)), (1, .int x1), (2, .int y2)] [] _ _ _
  refine w_aload_n 0 dX14_pickOne_65 rfl rfl rfl ?_
  refine w_aload_n 0 dX14_pickOne_66 rfl rfl rfl ?_
  obtain ⟨v11, ρ12, e13, hr⟩ := bw_some hr
  rcases v11 with w15e | w15
  · exact noko (bw_er hr)
  have hr := bw_ok hr
  refine c_X14_364 (As := []) (rest := [.ref (A 14 0 0)]) (fun l => t_X14_newColumn  hz e13 l) hrm dX14_pickOne_67 rfl rfl (Nat.le_of_ble_eq_true rfl) (Nat.le_of_ble_eq_true rfl) (Nat.le_of_ble_eq_true rfl) (hz.o14 rfl) rfl (Nat.le_of_ble_eq_true rfl) (fun vr h2 hq => ?_) (fun E9 h9 hq => hq.elim)
  obtain ⟨rfl, hz⟩ := hq
  show wp _ _ 70 [(0, .ref (A 14 0 0)), (1, .int x1), (2, .int y2)] [.long w15, .ref (A 14 0 0)] _ _ _
  refine w_iload_n 2 dX14_pickOne_70 rfl rfl rfl ?_
  refine w_iconst 0 dX14_pickOne_71 rfl rfl ?_
  obtain ⟨v16, ρ17, e18, hr⟩ := bq_some hr
  refine c_X14_316 (As := [.long w15, .int y2, .int 0]) (rest := []) (fun l => s_X14_say  hz e18 l) hrm dX14_pickOne_72 rfl rfl (Nat.le_of_ble_eq_true rfl) (Nat.le_of_ble_eq_true rfl) (Nat.le_of_ble_eq_true rfl) (hz.o14 rfl) rfl (Nat.le_of_ble_eq_true rfl) (fun vr h2 hq => ?_) (fun E9 h9 hq => hq.elim)
  obtain ⟨rfl, hz⟩ := hq
  show wp _ _ 75 [(0, .ref (A 14 0 0)), (1, .int x1), (2, .int y2)] [] _ _ _
  refine w_vret hf dX14_pickOne_75 rfl (Nat.le_of_ble_eq_true rfl) (Nat.le_of_ble_eq_true rfl) ?_
  obtain ⟨rfl, rfl⟩ := retw hr
  exact ⟨rfl, hz⟩
set_option maxRecDepth 20000 in
set_option maxHeartbeats 4000000 in
theorem t_X14_pickOne {A : Nat → Nat → Nat → Nat} {h : Hp} {σ ρ ρ' : Zs} {v : Unit} {x1 : Int32}  (hz : Rp A h σ ρ) (hr : fX14_pickOne x1 ρ = some (.ok v, ρ')) : ∀ l : Launch, Sp l mX14_pickOne 16 0 0 [.ref (A 14 0 0), .int x1] h (QV A v σ ρ') X0 := by
  intro l
  refine Sp.of rfl rfl (lv := [(0, .ref (A 14 0 0)), (1, .int x1)]) (Nat.le_of_ble_eq_true rfl) rfl (fun x hf hrm => ?_)
  rw [fX14_pickOne.eq_1] at hr
  refine w_aload_n 0 dX14_pickOne_0 rfl rfl rfl ?_
  refine w_sipush 200 dX14_pickOne_1 rfl rfl ?_
  obtain ⟨v1, ρ2, e3, hr⟩ := bq_some hr
  refine c_X14_223 (As := [.int 200]) (rest := []) (fun l => s_X14_is  hz e3 l) hrm dX14_pickOne_4 rfl rfl (Nat.le_of_ble_eq_true rfl) (Nat.le_of_ble_eq_true rfl) (Nat.le_of_ble_eq_true rfl) (hz.o14 rfl) rfl (Nat.le_of_ble_eq_true rfl) (fun vr h2 hq => ?_) (fun E9 h9 hq => hq.elim)
  obtain ⟨rfl, hz⟩ := hq
  show wp _ _ 7 [(0, .ref (A 14 0 0)), (1, .int x1)] [.int v1] _ _ _
  refine w_if_ne 15 dX14_pickOne_7 rfl rfl (fun q7 => ?_) (fun q7 => ?_)
  · have hr := bf q7 hr
    refine w_aload_n 0 dX14_pickOne_15 rfl rfl rfl ?_
    refine g_X14_212 dX14_pickOne_16 rfl (hz.o14 rfl) (hz.i906 rfl) ?_
    refine w_if_eq 39 dX14_pickOne_19 rfl rfl (fun q19 => ?_) (fun q19 => ?_)
    · have hr := bt q19 hr
      refine w_iconst 0 dX14_pickOne_39 rfl rfl ?_
      refine w_istore_n [(2, .int 0), (0, .ref (A 14 0 0)), (1, .int x1)] dX14_pickOne_40 rfl rfl (by decide) rfl ?_
      refine w_aload_n 1 dX14_pickOne_41 rfl rfl rfl ?_
      refine w_iload_n 0 dX14_pickOne_42 rfl rfl rfl ?_
      refine w_iconst (-1) dX14_pickOne_43 rfl rfl ?_
      refine w_icmp_eq 51 dX14_pickOne_44 rfl rfl (fun q44 => ?_) (fun q44 => ?_)
      · have hr := bt q44 hr
        refine w_iconst 0 dX14_pickOne_51 rfl rfl ?_
        refine w_lv [(0, .ref (A 14 0 0)), (1, .int x1), (2, .int 0)] [1, 2, 0] rfl ?_
        exact u_X14_pickOne_52 hf hrm   0 0 _ _ hz  hr
      · have hr := bf q44 hr
        refine w_iconst 1 dX14_pickOne_47 rfl rfl ?_
        refine w_goto 52 dX14_pickOne_48 rfl ?_
        refine w_lv [(0, .ref (A 14 0 0)), (1, .int x1), (2, .int 0)] [1, 2, 0] rfl ?_
        exact u_X14_pickOne_52 hf hrm   0 1 _ _ hz  hr
    · have hr := bf q19 hr
      refine w_aload_n 0 dX14_pickOne_22 rfl rfl rfl ?_
      refine w_iload_n 1 dX14_pickOne_23 rfl rfl rfl ?_
      refine w_aload_n 0 dX14_pickOne_24 rfl rfl rfl ?_
      refine g_X14_30 dX14_pickOne_25 rfl (hz.o14 rfl) (hz.r904 rfl) ?_
      refine w_aload_n 0 dX14_pickOne_28 rfl rfl rfl ?_
      refine g_X14_204 dX14_pickOne_29 rfl (hz.o14 rfl) (hz.i905 rfl) ?_
      obtain ⟨g20, hr⟩ := gd hr
      refine w_lald dX14_pickOne_32 rfl (hz.k904 rfl) (gin (hz.n904 rfl) g20) (hz.x904 rfl) ?_
      obtain ⟨v21, ρ22, e23, hr⟩ := bq_some hr
      refine c_X14_273 (As := [.int x1, .long (zJ ρ2 1928 0 0 (Int32.toNatClampNeg (zI ρ2 905 0 0 0)))]) (rest := []) (fun l => s_X14_columnOf  hz e23 l) hrm dX14_pickOne_33 rfl rfl (Nat.le_of_ble_eq_true rfl) (Nat.le_of_ble_eq_true rfl) (Nat.le_of_ble_eq_true rfl) (hz.o14 rfl) rfl (Nat.le_of_ble_eq_true rfl) (fun vr h2 hq => ?_) (fun E9 h9 hq => hq.elim)
      obtain ⟨rfl, hz⟩ := hq
      show wp _ _ 36 [(0, .ref (A 14 0 0)), (1, .int x1)] [.int v21] _ _ _
      refine w_goto 40 dX14_pickOne_36 rfl ?_
      refine w_istore_n [(2, .int v21), (0, .ref (A 14 0 0)), (1, .int x1)] dX14_pickOne_40 rfl rfl (by decide) rfl ?_
      refine w_aload_n 1 dX14_pickOne_41 rfl rfl rfl ?_
      refine w_iload_n 0 dX14_pickOne_42 rfl rfl rfl ?_
      refine w_iconst (-1) dX14_pickOne_43 rfl rfl ?_
      refine w_icmp_eq 51 dX14_pickOne_44 rfl rfl (fun q44 => ?_) (fun q44 => ?_)
      · have hr := bt q44 hr
        refine w_iconst 0 dX14_pickOne_51 rfl rfl ?_
        refine w_lv [(0, .ref (A 14 0 0)), (1, .int x1), (2, .int v21)] [1, 2, 0] rfl ?_
        exact u_X14_pickOne_52 hf hrm   v21 0 _ _ hz  hr
      · have hr := bf q44 hr
        refine w_iconst 1 dX14_pickOne_47 rfl rfl ?_
        refine w_goto 52 dX14_pickOne_48 rfl ?_
        refine w_lv [(0, .ref (A 14 0 0)), (1, .int x1), (2, .int v21)] [1, 2, 0] rfl ?_
        exact u_X14_pickOne_52 hf hrm   v21 1 _ _ hz  hr
  · have hr := bt q7 hr
    refine w_aload_n 0 dX14_pickOne_10 rfl rfl rfl ?_
    obtain ⟨w25, ρ26, e27, hr⟩ := bq_some hr
    exact noko hr

set_option maxRecDepth 20000 in
set_option maxHeartbeats 4000000 in
theorem x_X14_pickOne_52 {A : Nat → Nat → Nat → Nat} {σ ρ' : Zs} {v : Int32 × Int32} {x : Cxt} {x1 : Int32}  (hf : m_fin 1 8 QF (XW A v σ ρ') x) (hrm : m_rm 16 1 8 x)  : ∀ (y2 : Int32) (z0 : Int32) (ρ : Zs) (h : Hp), Rp A h σ ρ → fX14_pickOne_52 x1  y2 z0 ρ = some (.error v, ρ') → wp x mX14_pickOne 52 [(0, .ref (A 14 0 0)), (1, .int x1), (2, .int y2)] [.int z0, .ref (A 14 0 0)] h 0 0 := by
  intro y2 z0 ρ h hz hr
  rw [fX14_pickOne_52.eq_1] at hr
  refine w_iconst 2 dX14_pickOne_52 rfl rfl ?_
  refine w_aload_n 0 dX14_pickOne_53 rfl rfl rfl ?_
  refine g_X14_27 dX14_pickOne_54 rfl (hz.o14 rfl) (hz.r903 rfl) ?_
  refine w_aload_n 0 dX14_pickOne_57 rfl rfl rfl ?_
  refine g_X14_204 dX14_pickOne_58 rfl (hz.o14 rfl) (hz.i905 rfl) ?_
  obtain ⟨g5, hr⟩ := gd hr
  refine w_iald dX14_pickOne_61 rfl (hz.k903 rfl) (gin (hz.n903 rfl) g5) (hz.x903 rfl) ?_
  obtain ⟨v6, ρ7, e8, hr⟩ := bw_some hr
  rcases v6 with w10e | w10
  · obtain ⟨rfl, rfl⟩ := rete (bw_er hr)
    refine c_X14_277 (As := [.int z0, .int 2, .int (zI ρ 1927 0 0 (Int32.toNatClampNeg (zI ρ 905 0 0 0)))]) (rest := []) (fun l => e_X14_must  hz e8 l) hrm dX14_pickOne_62 rfl rfl (Nat.le_of_ble_eq_true rfl) (Nat.le_of_ble_eq_true rfl) (Nat.le_of_ble_eq_true rfl) (hz.o14 rfl) rfl (Nat.le_of_ble_eq_true rfl) (fun vr h2 hq => hq.elim) (fun E9 h9 hq => ?_)
    exact w_out hf (Nat.le_of_ble_eq_true rfl) (Nat.le_of_ble_eq_true rfl) hq
  have hr := bw_ok hr
  refine c_X14_277 (As := [.int z0, .int 2, .int (zI ρ 1927 0 0 (Int32.toNatClampNeg (zI ρ 905 0 0 0)))]) (rest := []) (fun l => t_X14_must  hz e8 l) hrm dX14_pickOne_62 rfl rfl (Nat.le_of_ble_eq_true rfl) (Nat.le_of_ble_eq_true rfl) (Nat.le_of_ble_eq_true rfl) (hz.o14 rfl) rfl (Nat.le_of_ble_eq_true rfl) (fun vr h2 hq => ?_) (fun E9 h9 hq => hq.elim)
  obtain ⟨rfl, hz⟩ := hq
  show wp _ _ 65 [(0, .ref (A 14 0 0)), (1, .int x1), (2, .int y2)] [] _ _ _
  refine w_aload_n 0 dX14_pickOne_65 rfl rfl rfl ?_
  refine w_aload_n 0 dX14_pickOne_66 rfl rfl rfl ?_
  obtain ⟨v11, ρ12, e13, hr⟩ := bw_some hr
  rcases v11 with w15e | w15
  · obtain ⟨rfl, rfl⟩ := rete (bw_er hr)
    refine c_X14_364 (As := []) (rest := [.ref (A 14 0 0)]) (fun l => e_X14_newColumn  hz e13 l) hrm dX14_pickOne_67 rfl rfl (Nat.le_of_ble_eq_true rfl) (Nat.le_of_ble_eq_true rfl) (Nat.le_of_ble_eq_true rfl) (hz.o14 rfl) rfl (Nat.le_of_ble_eq_true rfl) (fun vr h2 hq => hq.elim) (fun E9 h9 hq => ?_)
    exact w_out hf (Nat.le_of_ble_eq_true rfl) (Nat.le_of_ble_eq_true rfl) hq
  have hr := bw_ok hr
  refine c_X14_364 (As := []) (rest := [.ref (A 14 0 0)]) (fun l => t_X14_newColumn  hz e13 l) hrm dX14_pickOne_67 rfl rfl (Nat.le_of_ble_eq_true rfl) (Nat.le_of_ble_eq_true rfl) (Nat.le_of_ble_eq_true rfl) (hz.o14 rfl) rfl (Nat.le_of_ble_eq_true rfl) (fun vr h2 hq => ?_) (fun E9 h9 hq => hq.elim)
  obtain ⟨rfl, hz⟩ := hq
  show wp _ _ 70 [(0, .ref (A 14 0 0)), (1, .int x1), (2, .int y2)] [.long w15, .ref (A 14 0 0)] _ _ _
  refine w_iload_n 2 dX14_pickOne_70 rfl rfl rfl ?_
  refine w_iconst 0 dX14_pickOne_71 rfl rfl ?_
  obtain ⟨v16, ρ17, e18, hr⟩ := bq_some hr
  refine c_X14_316 (As := [.long w15, .int y2, .int 0]) (rest := []) (fun l => s_X14_say  hz e18 l) hrm dX14_pickOne_72 rfl rfl (Nat.le_of_ble_eq_true rfl) (Nat.le_of_ble_eq_true rfl) (Nat.le_of_ble_eq_true rfl) (hz.o14 rfl) rfl (Nat.le_of_ble_eq_true rfl) (fun vr h2 hq => ?_) (fun E9 h9 hq => hq.elim)
  obtain ⟨rfl, hz⟩ := hq
  show wp _ _ 75 [(0, .ref (A 14 0 0)), (1, .int x1), (2, .int y2)] [] _ _ _
  exact noek hr
set_option maxRecDepth 20000 in
set_option maxHeartbeats 4000000 in
theorem e_X14_pickOne {A : Nat → Nat → Nat → Nat} {h : Hp} {σ ρ ρ' : Zs} {v : Int32 × Int32} {x1 : Int32}  (hz : Rp A h σ ρ) (hr : fX14_pickOne x1 ρ = some (.error v, ρ')) : ∀ l : Launch, Sp l mX14_pickOne 16 1 8 [.ref (A 14 0 0), .int x1] h QF (XW A v σ ρ') := by
  intro l
  refine Sp.of rfl rfl (lv := [(0, .ref (A 14 0 0)), (1, .int x1)]) (Nat.le_of_ble_eq_true rfl) rfl (fun x hf hrm => ?_)
  rw [fX14_pickOne.eq_1] at hr
  refine w_aload_n 0 dX14_pickOne_0 rfl rfl rfl ?_
  refine w_sipush 200 dX14_pickOne_1 rfl rfl ?_
  obtain ⟨v1, ρ2, e3, hr⟩ := bq_some hr
  refine c_X14_223 (As := [.int 200]) (rest := []) (fun l => s_X14_is  hz e3 l) hrm dX14_pickOne_4 rfl rfl (Nat.le_of_ble_eq_true rfl) (Nat.le_of_ble_eq_true rfl) (Nat.le_of_ble_eq_true rfl) (hz.o14 rfl) rfl (Nat.le_of_ble_eq_true rfl) (fun vr h2 hq => ?_) (fun E9 h9 hq => hq.elim)
  obtain ⟨rfl, hz⟩ := hq
  show wp _ _ 7 [(0, .ref (A 14 0 0)), (1, .int x1)] [.int v1] _ _ _
  refine w_if_ne 15 dX14_pickOne_7 rfl rfl (fun q7 => ?_) (fun q7 => ?_)
  · have hr := bf q7 hr
    refine w_aload_n 0 dX14_pickOne_15 rfl rfl rfl ?_
    refine g_X14_212 dX14_pickOne_16 rfl (hz.o14 rfl) (hz.i906 rfl) ?_
    refine w_if_eq 39 dX14_pickOne_19 rfl rfl (fun q19 => ?_) (fun q19 => ?_)
    · have hr := bt q19 hr
      refine w_iconst 0 dX14_pickOne_39 rfl rfl ?_
      refine w_istore_n [(2, .int 0), (0, .ref (A 14 0 0)), (1, .int x1)] dX14_pickOne_40 rfl rfl (by decide) rfl ?_
      refine w_aload_n 1 dX14_pickOne_41 rfl rfl rfl ?_
      refine w_iload_n 0 dX14_pickOne_42 rfl rfl rfl ?_
      refine w_iconst (-1) dX14_pickOne_43 rfl rfl ?_
      refine w_icmp_eq 51 dX14_pickOne_44 rfl rfl (fun q44 => ?_) (fun q44 => ?_)
      · have hr := bt q44 hr
        refine w_iconst 0 dX14_pickOne_51 rfl rfl ?_
        refine w_lv [(0, .ref (A 14 0 0)), (1, .int x1), (2, .int 0)] [1, 2, 0] rfl ?_
        exact x_X14_pickOne_52 hf hrm   0 0 _ _ hz  hr
      · have hr := bf q44 hr
        refine w_iconst 1 dX14_pickOne_47 rfl rfl ?_
        refine w_goto 52 dX14_pickOne_48 rfl ?_
        refine w_lv [(0, .ref (A 14 0 0)), (1, .int x1), (2, .int 0)] [1, 2, 0] rfl ?_
        exact x_X14_pickOne_52 hf hrm   0 1 _ _ hz  hr
    · have hr := bf q19 hr
      refine w_aload_n 0 dX14_pickOne_22 rfl rfl rfl ?_
      refine w_iload_n 1 dX14_pickOne_23 rfl rfl rfl ?_
      refine w_aload_n 0 dX14_pickOne_24 rfl rfl rfl ?_
      refine g_X14_30 dX14_pickOne_25 rfl (hz.o14 rfl) (hz.r904 rfl) ?_
      refine w_aload_n 0 dX14_pickOne_28 rfl rfl rfl ?_
      refine g_X14_204 dX14_pickOne_29 rfl (hz.o14 rfl) (hz.i905 rfl) ?_
      obtain ⟨g20, hr⟩ := gd hr
      refine w_lald dX14_pickOne_32 rfl (hz.k904 rfl) (gin (hz.n904 rfl) g20) (hz.x904 rfl) ?_
      obtain ⟨v21, ρ22, e23, hr⟩ := bq_some hr
      refine c_X14_273 (As := [.int x1, .long (zJ ρ2 1928 0 0 (Int32.toNatClampNeg (zI ρ2 905 0 0 0)))]) (rest := []) (fun l => s_X14_columnOf  hz e23 l) hrm dX14_pickOne_33 rfl rfl (Nat.le_of_ble_eq_true rfl) (Nat.le_of_ble_eq_true rfl) (Nat.le_of_ble_eq_true rfl) (hz.o14 rfl) rfl (Nat.le_of_ble_eq_true rfl) (fun vr h2 hq => ?_) (fun E9 h9 hq => hq.elim)
      obtain ⟨rfl, hz⟩ := hq
      show wp _ _ 36 [(0, .ref (A 14 0 0)), (1, .int x1)] [.int v21] _ _ _
      refine w_goto 40 dX14_pickOne_36 rfl ?_
      refine w_istore_n [(2, .int v21), (0, .ref (A 14 0 0)), (1, .int x1)] dX14_pickOne_40 rfl rfl (by decide) rfl ?_
      refine w_aload_n 1 dX14_pickOne_41 rfl rfl rfl ?_
      refine w_iload_n 0 dX14_pickOne_42 rfl rfl rfl ?_
      refine w_iconst (-1) dX14_pickOne_43 rfl rfl ?_
      refine w_icmp_eq 51 dX14_pickOne_44 rfl rfl (fun q44 => ?_) (fun q44 => ?_)
      · have hr := bt q44 hr
        refine w_iconst 0 dX14_pickOne_51 rfl rfl ?_
        refine w_lv [(0, .ref (A 14 0 0)), (1, .int x1), (2, .int v21)] [1, 2, 0] rfl ?_
        exact x_X14_pickOne_52 hf hrm   v21 0 _ _ hz  hr
      · have hr := bf q44 hr
        refine w_iconst 1 dX14_pickOne_47 rfl rfl ?_
        refine w_goto 52 dX14_pickOne_48 rfl ?_
        refine w_lv [(0, .ref (A 14 0 0)), (1, .int x1), (2, .int v21)] [1, 2, 0] rfl ?_
        exact x_X14_pickOne_52 hf hrm   v21 1 _ _ hz  hr
  · have hr := bt q7 hr
    refine w_aload_n 0 dX14_pickOne_10 rfl rfl rfl ?_
    obtain ⟨w25, ρ26, e27, hr⟩ := bq_some hr
    refine c_X14_219 (As := []) (rest := []) (fun l => s_X14_wrong hz e27 l) hrm dX14_pickOne_11 rfl rfl (Nat.le_of_ble_eq_true rfl) (Nat.le_of_ble_eq_true rfl) (Nat.le_of_ble_eq_true rfl) (hz.o14 rfl) rfl (Nat.le_of_ble_eq_true rfl) (fun vr h2 hq => ?_) (fun E9 h9 hq => hq.elim)
    obtain ⟨q, rfl, hq⟩ := hq
    obtain ⟨rfl, rfl⟩ := rete hr
    show wp _ _ 14 [(0, .ref (A 14 0 0)), (1, .int x1)] [.ref q] _ _ _
    refine w_athrow dX14_pickOne_14 (q := q) hq.1 ?_
    exact w_out hf (Nat.le_of_ble_eq_true rfl) (Nat.le_of_ble_eq_true rfl) hq.gh

set_option maxRecDepth 20000 in
set_option maxHeartbeats 4000000 in
theorem u_X14_join_218 {A : Nat → Nat → Nat → Nat} {σ ρ' : Zs} {v : Unit} {x : Cxt} {x1 : Int32} {x2 : Int32}  (hf : m_fin 0 0 (QV A v σ ρ') X0 x) (hrm : m_rm 16 0 0 x)  : ∀ (n : Nat) (y3 : Int32) (y7 : Int32) (y8 : Int32) (ρ : Zs) (h : Hp), Rp A h σ ρ → fX14_join_218 x1 x2  n y3 y7 y8 ρ = some (.ok v, ρ') → wp x mX14_join 218 [(0, .ref (A 14 0 0)), (1, .int x1), (2, .int x2), (3, .int y3), (7, .int y7), (8, .int y8)] [] h 0 0
  | 0, _, _, _, ρ, h => fun hz hr => by
    rw [fX14_join_218.eq_1] at hr
    exact nono hr
  | n + 1, y3, y7, y8, ρ, h => fun hz hr => by
    rw [fX14_join_218.eq_2] at hr
    refine w_iload 5 dX14_join_218 rfl rfl ?_
    refine w_aload_n 0 dX14_join_220 rfl rfl rfl ?_
    refine g_X14_313 dX14_join_221 rfl (hz.o14 rfl) (hz.i911 rfl) ?_
    refine w_icmp_ge 265 dX14_join_224 rfl rfl (fun q224 => ?_) (fun q224 => ?_)
    · have hr := bt q224 hr
      refine w_vret hf dX14_join_265 rfl (Nat.le_of_ble_eq_true rfl) (Nat.le_of_ble_eq_true rfl) ?_
      obtain ⟨rfl, rfl⟩ := retw hr
      exact ⟨rfl, hz⟩
    · have hr := bf q224 hr
      refine w_aload_n 0 dX14_join_227 rfl rfl rfl ?_
      refine w_aload_n 0 dX14_join_228 rfl rfl rfl ?_
      refine g_X14_33 dX14_join_229 rfl (hz.o14 rfl) (hz.r912 rfl) ?_
      refine w_iconst 0 dX14_join_232 rfl rfl ?_
      refine w_iload 4 dX14_join_233 rfl rfl ?_
      refine w_aload_n 0 dX14_join_235 rfl rfl rfl ?_
      refine g_X14_33 dX14_join_236 rfl (hz.o14 rfl) (hz.r912 rfl) ?_
      refine w_iload 5 dX14_join_239 rfl rfl ?_
      obtain ⟨g70, hr⟩ := gd hr
      refine w_lald dX14_join_241 rfl (hz.k912 rfl) (gin (hz.n912 rfl) g70) (hz.x912 rfl) ?_
      obtain ⟨v71, ρ72, e73, hr⟩ := bq_some hr
      refine c_X14_192 (b := 0) (As := [.ref (A 1936 0 0), .int 0, .int y7, .long (zJ ρ 1936 0 0 (Int32.toNatClampNeg y8))]) (rest := [.ref (A 14 0 0)]) (fun l => s_X14_indexOf (aok_912 rfl) rfl hz e73 l) hrm dX14_join_242 rfl rfl (Nat.le_of_ble_eq_true rfl) (Nat.le_of_ble_eq_true rfl) (Nat.le_of_ble_eq_true rfl) rfl (Nat.le_of_ble_eq_true rfl) (fun vr h2 hq => ?_) (fun E9 h9 hq => hq.elim)
      obtain ⟨rfl, hz⟩ := hq
      show wp _ _ 245 [(0, .ref (A 14 0 0)), (1, .int x1), (2, .int x2), (3, .int y3), (7, .int y7), (8, .int y8)] [.int v71, .ref (A 14 0 0)] _ _ _
      refine w_iconst (-1) dX14_join_245 rfl rfl ?_
      refine w_icmp_ne 253 dX14_join_246 rfl rfl (fun q246 => ?_) (fun q246 => ?_)
      · have hr := bf q246 hr
        refine w_iconst 0 dX14_join_253 rfl rfl ?_
        refine w_iconst 5 dX14_join_254 rfl rfl ?_
        refine w_iload_n 3 dX14_join_255 rfl rfl rfl ?_
        obtain ⟨v75, ρ76, e77, hr⟩ := bw_some hr
        rcases v75 with w79e | w79
        · exact noko (bw_er hr)
        have hr := bw_ok hr
        refine c_X14_277 (As := [.int 0, .int 5, .int y3]) (rest := []) (fun l => t_X14_must  hz e77 l) hrm dX14_join_256 rfl rfl (Nat.le_of_ble_eq_true rfl) (Nat.le_of_ble_eq_true rfl) (Nat.le_of_ble_eq_true rfl) (hz.o14 rfl) rfl (Nat.le_of_ble_eq_true rfl) (fun vr h2 hq => ?_) (fun E9 h9 hq => hq.elim)
        obtain ⟨rfl, hz⟩ := hq
        show wp _ _ 259 [(0, .ref (A 14 0 0)), (1, .int x1), (2, .int x2), (3, .int y3), (7, .int y7), (8, .int y8)] [] _ _ _
        refine w_iinc 5 (y8 + 1) [(8, .int (y8 + 1)), (0, .ref (A 14 0 0)), (1, .int x1), (2, .int x2), (3, .int y3), (7, .int y7)] dX14_join_259 rfl rfl rfl (by decide) rfl ?_
        refine w_goto 218 dX14_join_262 rfl ?_
        refine w_lv [(0, .ref (A 14 0 0)), (1, .int x1), (2, .int x2), (3, .int y3), (7, .int y7), (8, .int (y8 + 1))] [1, 2, 3, 4, 5, 0] rfl ?_
        exact u_X14_join_218 hf hrm   n y3 y7 (y8 + 1) _ _ hz  hr
      · have hr := bt q246 hr
        refine w_iconst 1 dX14_join_249 rfl rfl ?_
        refine w_goto 254 dX14_join_250 rfl ?_
        refine w_iconst 5 dX14_join_254 rfl rfl ?_
        refine w_iload_n 3 dX14_join_255 rfl rfl rfl ?_
        obtain ⟨v80, ρ81, e82, hr⟩ := bw_some hr
        rcases v80 with w84e | w84
        · exact noko (bw_er hr)
        have hr := bw_ok hr
        refine c_X14_277 (As := [.int 1, .int 5, .int y3]) (rest := []) (fun l => t_X14_must  hz e82 l) hrm dX14_join_256 rfl rfl (Nat.le_of_ble_eq_true rfl) (Nat.le_of_ble_eq_true rfl) (Nat.le_of_ble_eq_true rfl) (hz.o14 rfl) rfl (Nat.le_of_ble_eq_true rfl) (fun vr h2 hq => ?_) (fun E9 h9 hq => hq.elim)
        obtain ⟨rfl, hz⟩ := hq
        show wp _ _ 259 [(0, .ref (A 14 0 0)), (1, .int x1), (2, .int x2), (3, .int y3), (7, .int y7), (8, .int y8)] [] _ _ _
        refine w_iinc 5 (y8 + 1) [(8, .int (y8 + 1)), (0, .ref (A 14 0 0)), (1, .int x1), (2, .int x2), (3, .int y3), (7, .int y7)] dX14_join_259 rfl rfl rfl (by decide) rfl ?_
        refine w_goto 218 dX14_join_262 rfl ?_
        refine w_lv [(0, .ref (A 14 0 0)), (1, .int x1), (2, .int x2), (3, .int y3), (7, .int y7), (8, .int (y8 + 1))] [1, 2, 3, 4, 5, 0] rfl ?_
        exact u_X14_join_218 hf hrm   n y3 y7 (y8 + 1) _ _ hz  hr
set_option maxRecDepth 20000 in
set_option maxHeartbeats 4000000 in
theorem u_X14_join_116 {A : Nat → Nat → Nat → Nat} {σ ρ' : Zs} {v : Unit} {x : Cxt} {x1 : Int32} {x2 : Int32}  (hf : m_fin 0 0 (QV A v σ ρ') X0 x) (hrm : m_rm 16 0 0 x)  : ∀ (y3 : Int32) (y4 : Int32) (y5 : Int32) (y6 : Int32) (z0 : Int32) (ρ : Zs) (h : Hp), Rp A h σ ρ → fX14_join_116 x1 x2  y3 y4 y5 y6 z0 ρ = some (.ok v, ρ') → wp x mX14_join 116 [(0, .ref (A 14 0 0)), (1, .int x1), (2, .int x2), (3, .int y3), (4, .int y4), (5, .int y5), (6, .int y6)] [.int z0, .ref (A 14 0 0)] h 0 0 := by
  intro y3 y4 y5 y6 z0 ρ h hz hr
  rw [fX14_join_116.eq_1] at hr
  refine w_iconst 2 dX14_join_116 rfl rfl ?_
  refine w_aload_n 0 dX14_join_117 rfl rfl rfl ?_
  refine g_X14_27 dX14_join_118 rfl (hz.o14 rfl) (hz.r903 rfl) ?_
  refine w_aload_n 0 dX14_join_121 rfl rfl rfl ?_
  refine g_X14_204 dX14_join_122 rfl (hz.o14 rfl) (hz.i905 rfl) ?_
  obtain ⟨g21, hr⟩ := gd hr
  refine w_iald dX14_join_125 rfl (hz.k903 rfl) (gin (hz.n903 rfl) g21) (hz.x903 rfl) ?_
  obtain ⟨v22, ρ23, e24, hr⟩ := bw_some hr
  rcases v22 with w26e | w26
  · exact noko (bw_er hr)
  have hr := bw_ok hr
  refine c_X14_277 (As := [.int z0, .int 2, .int (zI ρ 1927 0 0 (Int32.toNatClampNeg (zI ρ 905 0 0 0)))]) (rest := []) (fun l => t_X14_must  hz e24 l) hrm dX14_join_126 rfl rfl (Nat.le_of_ble_eq_true rfl) (Nat.le_of_ble_eq_true rfl) (Nat.le_of_ble_eq_true rfl) (hz.o14 rfl) rfl (Nat.le_of_ble_eq_true rfl) (fun vr h2 hq => ?_) (fun E9 h9 hq => hq.elim)
  obtain ⟨rfl, hz⟩ := hq
  show wp _ _ 129 [(0, .ref (A 14 0 0)), (1, .int x1), (2, .int x2), (3, .int y3), (4, .int y4), (5, .int y5), (6, .int y6)] [] _ _ _
  refine w_aload_n 0 dX14_join_129 rfl rfl rfl ?_
  obtain ⟨v27, ρ28, e29, hr⟩ := bw_some hr
  rcases v27 with w31e | w31
  · exact noko (bw_er hr)
  have hr := bw_ok hr
  refine c_X14_226 (As := []) (rest := []) (fun l => t_X14_take  hz e29 l) hrm dX14_join_130 rfl rfl (Nat.le_of_ble_eq_true rfl) (Nat.le_of_ble_eq_true rfl) (Nat.le_of_ble_eq_true rfl) (hz.o14 rfl) rfl (Nat.le_of_ble_eq_true rfl) (fun vr h2 hq => ?_) (fun E9 h9 hq => hq.elim)
  obtain ⟨rfl, hz⟩ := hq
  show wp _ _ 133 [(0, .ref (A 14 0 0)), (1, .int x1), (2, .int x2), (3, .int y3), (4, .int y4), (5, .int y5), (6, .int y6)] [] _ _ _
  refine w_aload_n 0 dX14_join_133 rfl rfl rfl ?_
  refine w_bipush 11 dX14_join_134 rfl rfl ?_
  obtain ⟨v32, ρ33, e34, hr⟩ := bw_some hr
  rcases v32 with w36e | w36
  · exact noko (bw_er hr)
  have hr := bw_ok hr
  refine c_X14_284 (As := [.int 11]) (rest := []) (fun l => t_X14_take_  hz e34 l) hrm dX14_join_136 rfl rfl (Nat.le_of_ble_eq_true rfl) (Nat.le_of_ble_eq_true rfl) (Nat.le_of_ble_eq_true rfl) (hz.o14 rfl) rfl (Nat.le_of_ble_eq_true rfl) (fun vr h2 hq => ?_) (fun E9 h9 hq => hq.elim)
  obtain ⟨rfl, hz⟩ := hq
  show wp _ _ 139 [(0, .ref (A 14 0 0)), (1, .int x1), (2, .int x2), (3, .int y3), (4, .int y4), (5, .int y5), (6, .int y6)] [] _ _ _
  refine w_aload_n 0 dX14_join_139 rfl rfl rfl ?_
  obtain ⟨g38, hr⟩ := gd hr
  have hv37 := hz.ww909 (p := 0) (s := 0) rfl g38
  refine g_X14_232 dX14_join_140 rfl (hz.o14 rfl) (hz.rr909 rfl g38) ?_
  refine g_X14_326 dX14_join_143 rfl (hz.o12 hv37) (hz.r774 hv37) ?_
  refine w_iload_n 1 dX14_join_146 rfl rfl rfl ?_
  refine w_iload 4 dX14_join_147 rfl rfl ?_
  obtain ⟨g39, hr⟩ := gd hr
  refine w_iast dX14_join_149 rfl (hz.k774 hv37) (gin (hz.n774 hv37) g39) ?_
  obtain ⟨ρ40, e41, hr⟩ := lt_e hr
  have hz := (hz.s774 (i := (Int32.toNatClampNeg x1)) (v := y4) hv37).tr e41
  refine w_aload_n 0 dX14_join_150 rfl rfl rfl ?_
  obtain ⟨g43, hr⟩ := gd hr
  have hv42 := hz.ww909 (p := 0) (s := 0) rfl g43
  refine g_X14_232 dX14_join_151 rfl (hz.o14 rfl) (hz.rr909 rfl g43) ?_
  refine g_X14_387 dX14_join_154 rfl (hz.o12 hv42) (hz.r777 hv42) ?_
  refine w_iload_n 1 dX14_join_157 rfl rfl rfl ?_
  refine w_iload 5 dX14_join_158 rfl rfl ?_
  obtain ⟨g44, hr⟩ := gd hr
  refine w_iast dX14_join_160 rfl (hz.k777 hv42) (gin (hz.n777 hv42) g44) ?_
  obtain ⟨ρ45, e46, hr⟩ := lt_e hr
  have hz := (hz.s777 (i := (Int32.toNatClampNeg x1)) (v := y5) hv42).tr e46
  refine w_aload_n 0 dX14_join_161 rfl rfl rfl ?_
  obtain ⟨g48, hr⟩ := gd hr
  have hv47 := hz.ww909 (p := 0) (s := 0) rfl g48
  refine g_X14_232 dX14_join_162 rfl (hz.o14 rfl) (hz.rr909 rfl g48) ?_
  refine g_X14_396 dX14_join_165 rfl (hz.o12 hv47) (hz.r778 hv47) ?_
  refine w_iload_n 1 dX14_join_168 rfl rfl rfl ?_
  refine w_iload 6 dX14_join_169 rfl rfl ?_
  obtain ⟨g49, hr⟩ := gd hr
  refine w_iast dX14_join_171 rfl (hz.k778 hv47) (gin (hz.n778 hv47) g49) ?_
  obtain ⟨ρ50, e51, hr⟩ := lt_e hr
  have hz := (hz.s778 (i := (Int32.toNatClampNeg x1)) (v := y6) hv47).tr e51
  refine w_aload_n 0 dX14_join_172 rfl rfl rfl ?_
  obtain ⟨g53, hr⟩ := gd hr
  have hv52 := hz.ww909 (p := 0) (s := 0) rfl g53
  refine g_X14_232 dX14_join_173 rfl (hz.o14 rfl) (hz.rr909 rfl g53) ?_
  refine g_X14_369 dX14_join_176 rfl (hz.o12 hv52) (hz.r775 hv52) ?_
  refine w_iload_n 1 dX14_join_179 rfl rfl rfl ?_
  refine w_aload_n 0 dX14_join_180 rfl rfl rfl ?_
  refine w_iconst 0 dX14_join_181 rfl rfl ?_
  obtain ⟨v54, ρ55, e56, hr⟩ := bw_some hr
  rcases v54 with w58e | w58
  · exact noko (bw_er hr)
  have hr := bw_ok hr
  refine c_X14_372 (As := [.int 0]) (rest := [.int x1, .ref (A 1799 (zR ρ50 909 0 0 0).1 0)]) (fun l => t_X14_numberIn  hz e56 l) hrm dX14_join_182 rfl rfl (Nat.le_of_ble_eq_true rfl) (Nat.le_of_ble_eq_true rfl) (Nat.le_of_ble_eq_true rfl) (hz.o14 rfl) rfl (Nat.le_of_ble_eq_true rfl) (fun vr h2 hq => ?_) (fun E9 h9 hq => hq.elim)
  obtain ⟨rfl, hz⟩ := hq
  show wp _ _ 185 [(0, .ref (A 14 0 0)), (1, .int x1), (2, .int x2), (3, .int y3), (4, .int y4), (5, .int y5), (6, .int y6)] [.int w58, .int x1, .ref (A 1799 (zR ρ50 909 0 0 0).1 0)] _ _ _
  obtain ⟨g59, hr⟩ := gd hr
  refine w_iast dX14_join_185 rfl (hz.k775 hv52) (gin (hz.n775 hv52) g59) ?_
  obtain ⟨ρ60, e61, hr⟩ := lt_e hr
  have hz := (hz.s775 (i := (Int32.toNatClampNeg x1)) (v := w58) hv52).tr e61
  refine w_aload_n 0 dX14_join_186 rfl rfl rfl ?_
  refine g_X14_212 dX14_join_187 rfl (hz.o14 rfl) (hz.i906 rfl) ?_
  refine w_if_ne 194 dX14_join_190 rfl rfl (fun q190 => ?_) (fun q190 => ?_)
  · have hr := bf q190 hr
    refine w_aload_n 0 dX14_join_194 rfl rfl rfl ?_
    refine w_iload_n 2 dX14_join_195 rfl rfl rfl ?_
    refine w_iconst (-1) dX14_join_196 rfl rfl ?_
    obtain ⟨v62, ρ63, e64, hr⟩ := bq_some hr
    refine c_X14_375 (As := [.int x2, .int (-1)]) (rest := []) (fun l => s_X14_sayAll  hz e64 l) hrm dX14_join_197 rfl rfl (Nat.le_of_ble_eq_true rfl) (Nat.le_of_ble_eq_true rfl) (Nat.le_of_ble_eq_true rfl) (hz.o14 rfl) rfl (Nat.le_of_ble_eq_true rfl) (fun vr h2 hq => ?_) (fun E9 h9 hq => hq.elim)
    obtain ⟨rfl, hz⟩ := hq
    show wp _ _ 200 [(0, .ref (A 14 0 0)), (1, .int x1), (2, .int x2), (3, .int y3), (4, .int y4), (5, .int y5), (6, .int y6)] [] _ _ _
    refine w_aload_n 0 dX14_join_200 rfl rfl rfl ?_
    refine g_X14_313 dX14_join_201 rfl (hz.o14 rfl) (hz.i911 rfl) ?_
    refine w_istore [(7, .int (zI ρ63 911 0 0 0)), (0, .ref (A 14 0 0)), (1, .int x1), (2, .int x2), (3, .int y3), (4, .int y4), (5, .int y5), (6, .int y6)] dX14_join_204 rfl (by decide) rfl ?_
    refine w_aload_n 1 dX14_join_206 rfl rfl rfl ?_
    refine w_iload 5 dX14_join_207 rfl rfl ?_
    refine w_iload 7 dX14_join_209 rfl rfl ?_
    obtain ⟨v66, ρ67, e68, hr⟩ := bq_some hr
    refine c_X14_375 (As := [.int y4, .int y6]) (rest := []) (fun l => s_X14_sayAll  hz e68 l) hrm dX14_join_211 rfl rfl (Nat.le_of_ble_eq_true rfl) (Nat.le_of_ble_eq_true rfl) (Nat.le_of_ble_eq_true rfl) (hz.o14 rfl) rfl (Nat.le_of_ble_eq_true rfl) (fun vr h2 hq => ?_) (fun E9 h9 hq => hq.elim)
    obtain ⟨rfl, hz⟩ := hq
    show wp _ _ 214 [(7, .int (zI ρ63 911 0 0 0)), (0, .ref (A 14 0 0)), (1, .int x1), (2, .int x2), (3, .int y3), (4, .int y4), (5, .int y5), (6, .int y6)] [] _ _ _
    refine w_iload 0 dX14_join_214 rfl rfl ?_
    refine w_istore [(8, .int (zI ρ63 911 0 0 0)), (7, .int (zI ρ63 911 0 0 0)), (0, .ref (A 14 0 0)), (1, .int x1), (2, .int x2), (3, .int y3), (4, .int y4), (5, .int y5), (6, .int y6)] dX14_join_216 rfl (by decide) rfl ?_
    refine w_lv [(0, .ref (A 14 0 0)), (1, .int x1), (2, .int x2), (3, .int y3), (7, .int (zI ρ63 911 0 0 0)), (8, .int (zI ρ63 911 0 0 0))] [2, 3, 4, 5, 1, 0] rfl ?_
    exact u_X14_join_218 hf hrm   FU y3 (zI ρ63 911 0 0 0) (zI ρ63 911 0 0 0) _ _ hz  hr
  · have hr := bt q190 hr
    refine w_vret hf dX14_join_193 rfl (Nat.le_of_ble_eq_true rfl) (Nat.le_of_ble_eq_true rfl) ?_
    obtain ⟨rfl, rfl⟩ := retw hr
    exact ⟨rfl, hz⟩
set_option maxRecDepth 20000 in
set_option maxHeartbeats 4000000 in
theorem u_X14_join_68 {A : Nat → Nat → Nat → Nat} {σ ρ' : Zs} {v : Unit} {x : Cxt} {x1 : Int32} {x2 : Int32}  (hf : m_fin 0 0 (QV A v σ ρ') X0 x) (hrm : m_rm 16 0 0 x)  : ∀ (y3 : Int32) (y4 : Int32) (z0 : Int32) (ρ : Zs) (h : Hp), Rp A h σ ρ → fX14_join_68 x1 x2  y3 y4 z0 ρ = some (.ok v, ρ') → wp x mX14_join 68 [(0, .ref (A 14 0 0)), (1, .int x1), (2, .int x2), (3, .int y3), (4, .int y4)] [.int z0] h 0 0 := by
  intro y3 y4 z0 ρ h hz hr
  rw [fX14_join_68.eq_1] at hr
  refine w_istore [(5, .int z0), (0, .ref (A 14 0 0)), (1, .int x1), (2, .int x2), (3, .int y3), (4, .int y4)] dX14_join_68 rfl (by decide) rfl ?_
  refine w_aload_n 1 dX14_join_70 rfl rfl rfl ?_
  refine g_X14_212 dX14_join_71 rfl (hz.o14 rfl) (hz.i906 rfl) ?_
  refine w_if_eq 95 dX14_join_74 rfl rfl (fun q74 => ?_) (fun q74 => ?_)
  · have hr := bt q74 hr
    refine w_iconst 0 dX14_join_95 rfl rfl ?_
    refine w_istore [(6, .int 0), (5, .int z0), (0, .ref (A 14 0 0)), (1, .int x1), (2, .int x2), (3, .int y3), (4, .int y4)] dX14_join_96 rfl (by decide) rfl ?_
    refine w_aload_n 2 dX14_join_98 rfl rfl rfl ?_
    refine w_iload 1 dX14_join_99 rfl rfl ?_
    refine w_iconst (-1) dX14_join_101 rfl rfl ?_
    refine w_icmp_eq 115 dX14_join_102 rfl rfl (fun q102 => ?_) (fun q102 => ?_)
    · have hr := bt q102 hr
      refine w_iconst 0 dX14_join_115 rfl rfl ?_
      refine w_lv [(0, .ref (A 14 0 0)), (1, .int x1), (2, .int x2), (3, .int y3), (4, .int y4), (5, .int z0), (6, .int 0)] [2, 3, 4, 5, 6, 1, 0] rfl ?_
      exact u_X14_join_116 hf hrm   y3 y4 z0 0 0 _ _ hz  hr
    · have hr := bf q102 hr
      refine w_iload 0 dX14_join_105 rfl rfl ?_
      refine w_iconst (-1) dX14_join_107 rfl rfl ?_
      refine w_icmp_eq 115 dX14_join_108 rfl rfl (fun q108 => ?_) (fun q108 => ?_)
      · have hr := bt q108 hr
        refine w_iconst 0 dX14_join_115 rfl rfl ?_
        refine w_lv [(0, .ref (A 14 0 0)), (1, .int x1), (2, .int x2), (3, .int y3), (4, .int y4), (5, .int z0), (6, .int 0)] [2, 3, 4, 5, 6, 1, 0] rfl ?_
        exact u_X14_join_116 hf hrm   y3 y4 z0 0 0 _ _ hz  hr
      · have hr := bf q108 hr
        refine w_iconst 1 dX14_join_111 rfl rfl ?_
        refine w_goto 116 dX14_join_112 rfl ?_
        refine w_lv [(0, .ref (A 14 0 0)), (1, .int x1), (2, .int x2), (3, .int y3), (4, .int y4), (5, .int z0), (6, .int 0)] [2, 3, 4, 5, 6, 1, 0] rfl ?_
        exact u_X14_join_116 hf hrm   y3 y4 z0 0 1 _ _ hz  hr
  · have hr := bf q74 hr
    refine w_aload_n 1 dX14_join_77 rfl rfl rfl ?_
    refine w_iload 5 dX14_join_78 rfl rfl ?_
    refine w_aload_n 1 dX14_join_80 rfl rfl rfl ?_
    refine g_X14_30 dX14_join_81 rfl (hz.o14 rfl) (hz.r904 rfl) ?_
    refine w_aload_n 1 dX14_join_84 rfl rfl rfl ?_
    refine g_X14_204 dX14_join_85 rfl (hz.o14 rfl) (hz.i905 rfl) ?_
    obtain ⟨g85, hr⟩ := gd hr
    refine w_lald dX14_join_88 rfl (hz.k904 rfl) (gin (hz.n904 rfl) g85) (hz.x904 rfl) ?_
    obtain ⟨v86, ρ87, e88, hr⟩ := bq_some hr
    refine c_X14_273 (As := [.int y4, .long (zJ ρ 1928 0 0 (Int32.toNatClampNeg (zI ρ 905 0 0 0)))]) (rest := []) (fun l => s_X14_columnOf  hz e88 l) hrm dX14_join_89 rfl rfl (Nat.le_of_ble_eq_true rfl) (Nat.le_of_ble_eq_true rfl) (Nat.le_of_ble_eq_true rfl) (hz.o14 rfl) rfl (Nat.le_of_ble_eq_true rfl) (fun vr h2 hq => ?_) (fun E9 h9 hq => hq.elim)
    obtain ⟨rfl, hz⟩ := hq
    show wp _ _ 92 [(5, .int z0), (0, .ref (A 14 0 0)), (1, .int x1), (2, .int x2), (3, .int y3), (4, .int y4)] [.int v86] _ _ _
    refine w_goto 96 dX14_join_92 rfl ?_
    refine w_istore [(6, .int v86), (5, .int z0), (0, .ref (A 14 0 0)), (1, .int x1), (2, .int x2), (3, .int y3), (4, .int y4)] dX14_join_96 rfl (by decide) rfl ?_
    refine w_aload_n 2 dX14_join_98 rfl rfl rfl ?_
    refine w_iload 1 dX14_join_99 rfl rfl ?_
    refine w_iconst (-1) dX14_join_101 rfl rfl ?_
    refine w_icmp_eq 115 dX14_join_102 rfl rfl (fun q102 => ?_) (fun q102 => ?_)
    · have hr := bt q102 hr
      refine w_iconst 0 dX14_join_115 rfl rfl ?_
      refine w_lv [(0, .ref (A 14 0 0)), (1, .int x1), (2, .int x2), (3, .int y3), (4, .int y4), (5, .int z0), (6, .int v86)] [2, 3, 4, 5, 6, 1, 0] rfl ?_
      exact u_X14_join_116 hf hrm   y3 y4 z0 v86 0 _ _ hz  hr
    · have hr := bf q102 hr
      refine w_iload 0 dX14_join_105 rfl rfl ?_
      refine w_iconst (-1) dX14_join_107 rfl rfl ?_
      refine w_icmp_eq 115 dX14_join_108 rfl rfl (fun q108 => ?_) (fun q108 => ?_)
      · have hr := bt q108 hr
        refine w_iconst 0 dX14_join_115 rfl rfl ?_
        refine w_lv [(0, .ref (A 14 0 0)), (1, .int x1), (2, .int x2), (3, .int y3), (4, .int y4), (5, .int z0), (6, .int v86)] [2, 3, 4, 5, 6, 1, 0] rfl ?_
        exact u_X14_join_116 hf hrm   y3 y4 z0 v86 0 _ _ hz  hr
      · have hr := bf q108 hr
        refine w_iconst 1 dX14_join_111 rfl rfl ?_
        refine w_goto 116 dX14_join_112 rfl ?_
        refine w_lv [(0, .ref (A 14 0 0)), (1, .int x1), (2, .int x2), (3, .int y3), (4, .int y4), (5, .int z0), (6, .int v86)] [2, 3, 4, 5, 6, 1, 0] rfl ?_
        exact u_X14_join_116 hf hrm   y3 y4 z0 v86 1 _ _ hz  hr
set_option maxRecDepth 20000 in
set_option maxHeartbeats 4000000 in
theorem t_X14_join {A : Nat → Nat → Nat → Nat} {h : Hp} {σ ρ ρ' : Zs} {v : Unit} {x1 : Int32} {x2 : Int32}  (hz : Rp A h σ ρ) (hr : fX14_join x1 x2 ρ = some (.ok v, ρ')) : ∀ l : Launch, Sp l mX14_join 16 0 0 [.ref (A 14 0 0), .int x1, .int x2] h (QV A v σ ρ') X0 := by
  intro l
  refine Sp.of rfl rfl (lv := [(0, .ref (A 14 0 0)), (1, .int x1), (2, .int x2)]) (Nat.le_of_ble_eq_true rfl) rfl (fun x hf hrm => ?_)
  rw [fX14_join.eq_1] at hr
  refine w_aload_n 0 dX14_join_0 rfl rfl rfl ?_
  refine w_bipush 102 dX14_join_1 rfl rfl ?_
  obtain ⟨v1, ρ2, e3, hr⟩ := bw_some hr
  rcases v1 with w5e | w5
  · exact noko (bw_er hr)
  have hr := bw_ok hr
  refine c_X14_284 (As := [.int 102]) (rest := []) (fun l => t_X14_take_  hz e3 l) hrm dX14_join_3 rfl rfl (Nat.le_of_ble_eq_true rfl) (Nat.le_of_ble_eq_true rfl) (Nat.le_of_ble_eq_true rfl) (hz.o14 rfl) rfl (Nat.le_of_ble_eq_true rfl) (fun vr h2 hq => ?_) (fun E9 h9 hq => hq.elim)
  obtain ⟨rfl, hz⟩ := hq
  show wp _ _ 6 [(0, .ref (A 14 0 0)), (1, .int x1), (2, .int x2)] [] _ _ _
  refine w_aload_n 0 dX14_join_6 rfl rfl rfl ?_
  refine g_X14_27 dX14_join_7 rfl (hz.o14 rfl) (hz.r903 rfl) ?_
  refine w_aload_n 0 dX14_join_10 rfl rfl rfl ?_
  refine g_X14_204 dX14_join_11 rfl (hz.o14 rfl) (hz.i905 rfl) ?_
  obtain ⟨g6, hr⟩ := gd hr
  refine w_iald dX14_join_14 rfl (hz.k903 rfl) (gin (hz.n903 rfl) g6) (hz.x903 rfl) ?_
  refine w_istore_n [(3, .int (zI ρ2 1927 0 0 (Int32.toNatClampNeg (zI ρ2 905 0 0 0)))), (0, .ref (A 14 0 0)), (1, .int x1), (2, .int x2)] dX14_join_15 rfl rfl (by decide) rfl ?_
  refine w_aload_n 1 dX14_join_16 rfl rfl rfl ?_
  obtain ⟨v7, ρ8, e9, hr⟩ := bw_some hr
  rcases v7 with w11e | w11
  · exact noko (bw_er hr)
  have hr := bw_ok hr
  refine c_X14_344 (As := []) (rest := []) (fun l => t_X14_streamNamed  hz e9 l) hrm dX14_join_17 rfl rfl (Nat.le_of_ble_eq_true rfl) (Nat.le_of_ble_eq_true rfl) (Nat.le_of_ble_eq_true rfl) (hz.o14 rfl) rfl (Nat.le_of_ble_eq_true rfl) (fun vr h2 hq => ?_) (fun E9 h9 hq => hq.elim)
  obtain ⟨rfl, hz⟩ := hq
  show wp _ _ 20 [(3, .int (zI ρ2 1927 0 0 (Int32.toNatClampNeg (zI ρ2 905 0 0 0)))), (0, .ref (A 14 0 0)), (1, .int x1), (2, .int x2)] [.int w11] _ _ _
  refine w_istore [(4, .int w11), (3, .int (zI ρ2 1927 0 0 (Int32.toNatClampNeg (zI ρ2 905 0 0 0)))), (0, .ref (A 14 0 0)), (1, .int x1), (2, .int x2)] dX14_join_20 rfl (by decide) rfl ?_
  refine w_aload_n 2 dX14_join_22 rfl rfl rfl ?_
  refine w_bipush 10 dX14_join_23 rfl rfl ?_
  obtain ⟨v12, ρ13, e14, hr⟩ := bw_some hr
  rcases v12 with w16e | w16
  · exact noko (bw_er hr)
  have hr := bw_ok hr
  refine c_X14_284 (As := [.int 10]) (rest := []) (fun l => t_X14_take_  hz e14 l) hrm dX14_join_25 rfl rfl (Nat.le_of_ble_eq_true rfl) (Nat.le_of_ble_eq_true rfl) (Nat.le_of_ble_eq_true rfl) (hz.o14 rfl) rfl (Nat.le_of_ble_eq_true rfl) (fun vr h2 hq => ?_) (fun E9 h9 hq => hq.elim)
  obtain ⟨rfl, hz⟩ := hq
  show wp _ _ 28 [(4, .int w11), (3, .int (zI ρ2 1927 0 0 (Int32.toNatClampNeg (zI ρ2 905 0 0 0)))), (0, .ref (A 14 0 0)), (1, .int x1), (2, .int x2)] [] _ _ _
  refine w_aload_n 2 dX14_join_28 rfl rfl rfl ?_
  refine w_sipush 200 dX14_join_29 rfl rfl ?_
  obtain ⟨v17, ρ18, e19, hr⟩ := bq_some hr
  refine c_X14_223 (As := [.int 200]) (rest := []) (fun l => s_X14_is  hz e19 l) hrm dX14_join_32 rfl rfl (Nat.le_of_ble_eq_true rfl) (Nat.le_of_ble_eq_true rfl) (Nat.le_of_ble_eq_true rfl) (hz.o14 rfl) rfl (Nat.le_of_ble_eq_true rfl) (fun vr h2 hq => ?_) (fun E9 h9 hq => hq.elim)
  obtain ⟨rfl, hz⟩ := hq
  show wp _ _ 35 [(4, .int w11), (3, .int (zI ρ2 1927 0 0 (Int32.toNatClampNeg (zI ρ2 905 0 0 0)))), (0, .ref (A 14 0 0)), (1, .int x1), (2, .int x2)] [.int v17] _ _ _
  refine w_if_ne 43 dX14_join_35 rfl rfl (fun q35 => ?_) (fun q35 => ?_)
  · have hr := bf q35 hr
    refine w_aload_n 2 dX14_join_43 rfl rfl rfl ?_
    refine g_X14_212 dX14_join_44 rfl (hz.o14 rfl) (hz.i906 rfl) ?_
    refine w_if_eq 67 dX14_join_47 rfl rfl (fun q47 => ?_) (fun q47 => ?_)
    · have hr := bt q47 hr
      refine w_iconst 0 dX14_join_67 rfl rfl ?_
      refine w_lv [(0, .ref (A 14 0 0)), (1, .int x1), (2, .int x2), (3, .int (zI ρ2 1927 0 0 (Int32.toNatClampNeg (zI ρ2 905 0 0 0)))), (4, .int w11)] [2, 3, 4, 1, 0] rfl ?_
      exact u_X14_join_68 hf hrm   (zI ρ2 1927 0 0 (Int32.toNatClampNeg (zI ρ2 905 0 0 0))) w11 0 _ _ hz  hr
    · have hr := bf q47 hr
      refine w_aload_n 2 dX14_join_50 rfl rfl rfl ?_
      refine w_iload_n 4 dX14_join_51 rfl rfl rfl ?_
      refine w_aload_n 2 dX14_join_52 rfl rfl rfl ?_
      refine g_X14_30 dX14_join_53 rfl (hz.o14 rfl) (hz.r904 rfl) ?_
      refine w_aload_n 2 dX14_join_56 rfl rfl rfl ?_
      refine g_X14_204 dX14_join_57 rfl (hz.o14 rfl) (hz.i905 rfl) ?_
      obtain ⟨g90, hr⟩ := gd hr
      refine w_lald dX14_join_60 rfl (hz.k904 rfl) (gin (hz.n904 rfl) g90) (hz.x904 rfl) ?_
      obtain ⟨v91, ρ92, e93, hr⟩ := bq_some hr
      refine c_X14_273 (As := [.int x2, .long (zJ ρ18 1928 0 0 (Int32.toNatClampNeg (zI ρ18 905 0 0 0)))]) (rest := []) (fun l => s_X14_columnOf  hz e93 l) hrm dX14_join_61 rfl rfl (Nat.le_of_ble_eq_true rfl) (Nat.le_of_ble_eq_true rfl) (Nat.le_of_ble_eq_true rfl) (hz.o14 rfl) rfl (Nat.le_of_ble_eq_true rfl) (fun vr h2 hq => ?_) (fun E9 h9 hq => hq.elim)
      obtain ⟨rfl, hz⟩ := hq
      show wp _ _ 64 [(4, .int w11), (3, .int (zI ρ2 1927 0 0 (Int32.toNatClampNeg (zI ρ2 905 0 0 0)))), (0, .ref (A 14 0 0)), (1, .int x1), (2, .int x2)] [.int v91] _ _ _
      refine w_goto 68 dX14_join_64 rfl ?_
      refine w_lv [(0, .ref (A 14 0 0)), (1, .int x1), (2, .int x2), (3, .int (zI ρ2 1927 0 0 (Int32.toNatClampNeg (zI ρ2 905 0 0 0)))), (4, .int w11)] [2, 3, 4, 1, 0] rfl ?_
      exact u_X14_join_68 hf hrm   (zI ρ2 1927 0 0 (Int32.toNatClampNeg (zI ρ2 905 0 0 0))) w11 v91 _ _ hz  hr
  · have hr := bt q35 hr
    refine w_aload_n 2 dX14_join_38 rfl rfl rfl ?_
    obtain ⟨w95, ρ96, e97, hr⟩ := bq_some hr
    exact noko hr

set_option maxRecDepth 20000 in
set_option maxHeartbeats 4000000 in
theorem x_X14_join_218 {A : Nat → Nat → Nat → Nat} {σ ρ' : Zs} {v : Int32 × Int32} {x : Cxt} {x1 : Int32} {x2 : Int32}  (hf : m_fin 1 8 QF (XW A v σ ρ') x) (hrm : m_rm 16 1 8 x)  : ∀ (n : Nat) (y3 : Int32) (y7 : Int32) (y8 : Int32) (ρ : Zs) (h : Hp), Rp A h σ ρ → fX14_join_218 x1 x2  n y3 y7 y8 ρ = some (.error v, ρ') → wp x mX14_join 218 [(0, .ref (A 14 0 0)), (1, .int x1), (2, .int x2), (3, .int y3), (7, .int y7), (8, .int y8)] [] h 0 0
  | 0, _, _, _, ρ, h => fun hz hr => by
    rw [fX14_join_218.eq_1] at hr
    exact nono hr
  | n + 1, y3, y7, y8, ρ, h => fun hz hr => by
    rw [fX14_join_218.eq_2] at hr
    refine w_iload 5 dX14_join_218 rfl rfl ?_
    refine w_aload_n 0 dX14_join_220 rfl rfl rfl ?_
    refine g_X14_313 dX14_join_221 rfl (hz.o14 rfl) (hz.i911 rfl) ?_
    refine w_icmp_ge 265 dX14_join_224 rfl rfl (fun q224 => ?_) (fun q224 => ?_)
    · have hr := bt q224 hr
      exact noek hr
    · have hr := bf q224 hr
      refine w_aload_n 0 dX14_join_227 rfl rfl rfl ?_
      refine w_aload_n 0 dX14_join_228 rfl rfl rfl ?_
      refine g_X14_33 dX14_join_229 rfl (hz.o14 rfl) (hz.r912 rfl) ?_
      refine w_iconst 0 dX14_join_232 rfl rfl ?_
      refine w_iload 4 dX14_join_233 rfl rfl ?_
      refine w_aload_n 0 dX14_join_235 rfl rfl rfl ?_
      refine g_X14_33 dX14_join_236 rfl (hz.o14 rfl) (hz.r912 rfl) ?_
      refine w_iload 5 dX14_join_239 rfl rfl ?_
      obtain ⟨g70, hr⟩ := gd hr
      refine w_lald dX14_join_241 rfl (hz.k912 rfl) (gin (hz.n912 rfl) g70) (hz.x912 rfl) ?_
      obtain ⟨v71, ρ72, e73, hr⟩ := bq_some hr
      refine c_X14_192 (b := 0) (As := [.ref (A 1936 0 0), .int 0, .int y7, .long (zJ ρ 1936 0 0 (Int32.toNatClampNeg y8))]) (rest := [.ref (A 14 0 0)]) (fun l => s_X14_indexOf (aok_912 rfl) rfl hz e73 l) hrm dX14_join_242 rfl rfl (Nat.le_of_ble_eq_true rfl) (Nat.le_of_ble_eq_true rfl) (Nat.le_of_ble_eq_true rfl) rfl (Nat.le_of_ble_eq_true rfl) (fun vr h2 hq => ?_) (fun E9 h9 hq => hq.elim)
      obtain ⟨rfl, hz⟩ := hq
      show wp _ _ 245 [(0, .ref (A 14 0 0)), (1, .int x1), (2, .int x2), (3, .int y3), (7, .int y7), (8, .int y8)] [.int v71, .ref (A 14 0 0)] _ _ _
      refine w_iconst (-1) dX14_join_245 rfl rfl ?_
      refine w_icmp_ne 253 dX14_join_246 rfl rfl (fun q246 => ?_) (fun q246 => ?_)
      · have hr := bf q246 hr
        refine w_iconst 0 dX14_join_253 rfl rfl ?_
        refine w_iconst 5 dX14_join_254 rfl rfl ?_
        refine w_iload_n 3 dX14_join_255 rfl rfl rfl ?_
        obtain ⟨v75, ρ76, e77, hr⟩ := bw_some hr
        rcases v75 with w79e | w79
        · obtain ⟨rfl, rfl⟩ := rete (bw_er hr)
          refine c_X14_277 (As := [.int 0, .int 5, .int y3]) (rest := []) (fun l => e_X14_must  hz e77 l) hrm dX14_join_256 rfl rfl (Nat.le_of_ble_eq_true rfl) (Nat.le_of_ble_eq_true rfl) (Nat.le_of_ble_eq_true rfl) (hz.o14 rfl) rfl (Nat.le_of_ble_eq_true rfl) (fun vr h2 hq => hq.elim) (fun E9 h9 hq => ?_)
          exact w_out hf (Nat.le_of_ble_eq_true rfl) (Nat.le_of_ble_eq_true rfl) hq
        have hr := bw_ok hr
        refine c_X14_277 (As := [.int 0, .int 5, .int y3]) (rest := []) (fun l => t_X14_must  hz e77 l) hrm dX14_join_256 rfl rfl (Nat.le_of_ble_eq_true rfl) (Nat.le_of_ble_eq_true rfl) (Nat.le_of_ble_eq_true rfl) (hz.o14 rfl) rfl (Nat.le_of_ble_eq_true rfl) (fun vr h2 hq => ?_) (fun E9 h9 hq => hq.elim)
        obtain ⟨rfl, hz⟩ := hq
        show wp _ _ 259 [(0, .ref (A 14 0 0)), (1, .int x1), (2, .int x2), (3, .int y3), (7, .int y7), (8, .int y8)] [] _ _ _
        refine w_iinc 5 (y8 + 1) [(8, .int (y8 + 1)), (0, .ref (A 14 0 0)), (1, .int x1), (2, .int x2), (3, .int y3), (7, .int y7)] dX14_join_259 rfl rfl rfl (by decide) rfl ?_
        refine w_goto 218 dX14_join_262 rfl ?_
        refine w_lv [(0, .ref (A 14 0 0)), (1, .int x1), (2, .int x2), (3, .int y3), (7, .int y7), (8, .int (y8 + 1))] [1, 2, 3, 4, 5, 0] rfl ?_
        exact x_X14_join_218 hf hrm   n y3 y7 (y8 + 1) _ _ hz  hr
      · have hr := bt q246 hr
        refine w_iconst 1 dX14_join_249 rfl rfl ?_
        refine w_goto 254 dX14_join_250 rfl ?_
        refine w_iconst 5 dX14_join_254 rfl rfl ?_
        refine w_iload_n 3 dX14_join_255 rfl rfl rfl ?_
        obtain ⟨v80, ρ81, e82, hr⟩ := bw_some hr
        rcases v80 with w84e | w84
        · obtain ⟨rfl, rfl⟩ := rete (bw_er hr)
          refine c_X14_277 (As := [.int 1, .int 5, .int y3]) (rest := []) (fun l => e_X14_must  hz e82 l) hrm dX14_join_256 rfl rfl (Nat.le_of_ble_eq_true rfl) (Nat.le_of_ble_eq_true rfl) (Nat.le_of_ble_eq_true rfl) (hz.o14 rfl) rfl (Nat.le_of_ble_eq_true rfl) (fun vr h2 hq => hq.elim) (fun E9 h9 hq => ?_)
          exact w_out hf (Nat.le_of_ble_eq_true rfl) (Nat.le_of_ble_eq_true rfl) hq
        have hr := bw_ok hr
        refine c_X14_277 (As := [.int 1, .int 5, .int y3]) (rest := []) (fun l => t_X14_must  hz e82 l) hrm dX14_join_256 rfl rfl (Nat.le_of_ble_eq_true rfl) (Nat.le_of_ble_eq_true rfl) (Nat.le_of_ble_eq_true rfl) (hz.o14 rfl) rfl (Nat.le_of_ble_eq_true rfl) (fun vr h2 hq => ?_) (fun E9 h9 hq => hq.elim)
        obtain ⟨rfl, hz⟩ := hq
        show wp _ _ 259 [(0, .ref (A 14 0 0)), (1, .int x1), (2, .int x2), (3, .int y3), (7, .int y7), (8, .int y8)] [] _ _ _
        refine w_iinc 5 (y8 + 1) [(8, .int (y8 + 1)), (0, .ref (A 14 0 0)), (1, .int x1), (2, .int x2), (3, .int y3), (7, .int y7)] dX14_join_259 rfl rfl rfl (by decide) rfl ?_
        refine w_goto 218 dX14_join_262 rfl ?_
        refine w_lv [(0, .ref (A 14 0 0)), (1, .int x1), (2, .int x2), (3, .int y3), (7, .int y7), (8, .int (y8 + 1))] [1, 2, 3, 4, 5, 0] rfl ?_
        exact x_X14_join_218 hf hrm   n y3 y7 (y8 + 1) _ _ hz  hr
set_option maxRecDepth 20000 in
set_option maxHeartbeats 4000000 in
theorem x_X14_join_116 {A : Nat → Nat → Nat → Nat} {σ ρ' : Zs} {v : Int32 × Int32} {x : Cxt} {x1 : Int32} {x2 : Int32}  (hf : m_fin 1 8 QF (XW A v σ ρ') x) (hrm : m_rm 16 1 8 x)  : ∀ (y3 : Int32) (y4 : Int32) (y5 : Int32) (y6 : Int32) (z0 : Int32) (ρ : Zs) (h : Hp), Rp A h σ ρ → fX14_join_116 x1 x2  y3 y4 y5 y6 z0 ρ = some (.error v, ρ') → wp x mX14_join 116 [(0, .ref (A 14 0 0)), (1, .int x1), (2, .int x2), (3, .int y3), (4, .int y4), (5, .int y5), (6, .int y6)] [.int z0, .ref (A 14 0 0)] h 0 0 := by
  intro y3 y4 y5 y6 z0 ρ h hz hr
  rw [fX14_join_116.eq_1] at hr
  refine w_iconst 2 dX14_join_116 rfl rfl ?_
  refine w_aload_n 0 dX14_join_117 rfl rfl rfl ?_
  refine g_X14_27 dX14_join_118 rfl (hz.o14 rfl) (hz.r903 rfl) ?_
  refine w_aload_n 0 dX14_join_121 rfl rfl rfl ?_
  refine g_X14_204 dX14_join_122 rfl (hz.o14 rfl) (hz.i905 rfl) ?_
  obtain ⟨g21, hr⟩ := gd hr
  refine w_iald dX14_join_125 rfl (hz.k903 rfl) (gin (hz.n903 rfl) g21) (hz.x903 rfl) ?_
  obtain ⟨v22, ρ23, e24, hr⟩ := bw_some hr
  rcases v22 with w26e | w26
  · obtain ⟨rfl, rfl⟩ := rete (bw_er hr)
    refine c_X14_277 (As := [.int z0, .int 2, .int (zI ρ 1927 0 0 (Int32.toNatClampNeg (zI ρ 905 0 0 0)))]) (rest := []) (fun l => e_X14_must  hz e24 l) hrm dX14_join_126 rfl rfl (Nat.le_of_ble_eq_true rfl) (Nat.le_of_ble_eq_true rfl) (Nat.le_of_ble_eq_true rfl) (hz.o14 rfl) rfl (Nat.le_of_ble_eq_true rfl) (fun vr h2 hq => hq.elim) (fun E9 h9 hq => ?_)
    exact w_out hf (Nat.le_of_ble_eq_true rfl) (Nat.le_of_ble_eq_true rfl) hq
  have hr := bw_ok hr
  refine c_X14_277 (As := [.int z0, .int 2, .int (zI ρ 1927 0 0 (Int32.toNatClampNeg (zI ρ 905 0 0 0)))]) (rest := []) (fun l => t_X14_must  hz e24 l) hrm dX14_join_126 rfl rfl (Nat.le_of_ble_eq_true rfl) (Nat.le_of_ble_eq_true rfl) (Nat.le_of_ble_eq_true rfl) (hz.o14 rfl) rfl (Nat.le_of_ble_eq_true rfl) (fun vr h2 hq => ?_) (fun E9 h9 hq => hq.elim)
  obtain ⟨rfl, hz⟩ := hq
  show wp _ _ 129 [(0, .ref (A 14 0 0)), (1, .int x1), (2, .int x2), (3, .int y3), (4, .int y4), (5, .int y5), (6, .int y6)] [] _ _ _
  refine w_aload_n 0 dX14_join_129 rfl rfl rfl ?_
  obtain ⟨v27, ρ28, e29, hr⟩ := bw_some hr
  rcases v27 with w31e | w31
  · obtain ⟨rfl, rfl⟩ := rete (bw_er hr)
    refine c_X14_226 (As := []) (rest := []) (fun l => e_X14_take  hz e29 l) hrm dX14_join_130 rfl rfl (Nat.le_of_ble_eq_true rfl) (Nat.le_of_ble_eq_true rfl) (Nat.le_of_ble_eq_true rfl) (hz.o14 rfl) rfl (Nat.le_of_ble_eq_true rfl) (fun vr h2 hq => hq.elim) (fun E9 h9 hq => ?_)
    exact w_out hf (Nat.le_of_ble_eq_true rfl) (Nat.le_of_ble_eq_true rfl) hq
  have hr := bw_ok hr
  refine c_X14_226 (As := []) (rest := []) (fun l => t_X14_take  hz e29 l) hrm dX14_join_130 rfl rfl (Nat.le_of_ble_eq_true rfl) (Nat.le_of_ble_eq_true rfl) (Nat.le_of_ble_eq_true rfl) (hz.o14 rfl) rfl (Nat.le_of_ble_eq_true rfl) (fun vr h2 hq => ?_) (fun E9 h9 hq => hq.elim)
  obtain ⟨rfl, hz⟩ := hq
  show wp _ _ 133 [(0, .ref (A 14 0 0)), (1, .int x1), (2, .int x2), (3, .int y3), (4, .int y4), (5, .int y5), (6, .int y6)] [] _ _ _
  refine w_aload_n 0 dX14_join_133 rfl rfl rfl ?_
  refine w_bipush 11 dX14_join_134 rfl rfl ?_
  obtain ⟨v32, ρ33, e34, hr⟩ := bw_some hr
  rcases v32 with w36e | w36
  · obtain ⟨rfl, rfl⟩ := rete (bw_er hr)
    refine c_X14_284 (As := [.int 11]) (rest := []) (fun l => e_X14_take_  hz e34 l) hrm dX14_join_136 rfl rfl (Nat.le_of_ble_eq_true rfl) (Nat.le_of_ble_eq_true rfl) (Nat.le_of_ble_eq_true rfl) (hz.o14 rfl) rfl (Nat.le_of_ble_eq_true rfl) (fun vr h2 hq => hq.elim) (fun E9 h9 hq => ?_)
    exact w_out hf (Nat.le_of_ble_eq_true rfl) (Nat.le_of_ble_eq_true rfl) hq
  have hr := bw_ok hr
  refine c_X14_284 (As := [.int 11]) (rest := []) (fun l => t_X14_take_  hz e34 l) hrm dX14_join_136 rfl rfl (Nat.le_of_ble_eq_true rfl) (Nat.le_of_ble_eq_true rfl) (Nat.le_of_ble_eq_true rfl) (hz.o14 rfl) rfl (Nat.le_of_ble_eq_true rfl) (fun vr h2 hq => ?_) (fun E9 h9 hq => hq.elim)
  obtain ⟨rfl, hz⟩ := hq
  show wp _ _ 139 [(0, .ref (A 14 0 0)), (1, .int x1), (2, .int x2), (3, .int y3), (4, .int y4), (5, .int y5), (6, .int y6)] [] _ _ _
  refine w_aload_n 0 dX14_join_139 rfl rfl rfl ?_
  obtain ⟨g38, hr⟩ := gd hr
  have hv37 := hz.ww909 (p := 0) (s := 0) rfl g38
  refine g_X14_232 dX14_join_140 rfl (hz.o14 rfl) (hz.rr909 rfl g38) ?_
  refine g_X14_326 dX14_join_143 rfl (hz.o12 hv37) (hz.r774 hv37) ?_
  refine w_iload_n 1 dX14_join_146 rfl rfl rfl ?_
  refine w_iload 4 dX14_join_147 rfl rfl ?_
  obtain ⟨g39, hr⟩ := gd hr
  refine w_iast dX14_join_149 rfl (hz.k774 hv37) (gin (hz.n774 hv37) g39) ?_
  obtain ⟨ρ40, e41, hr⟩ := lt_e hr
  have hz := (hz.s774 (i := (Int32.toNatClampNeg x1)) (v := y4) hv37).tr e41
  refine w_aload_n 0 dX14_join_150 rfl rfl rfl ?_
  obtain ⟨g43, hr⟩ := gd hr
  have hv42 := hz.ww909 (p := 0) (s := 0) rfl g43
  refine g_X14_232 dX14_join_151 rfl (hz.o14 rfl) (hz.rr909 rfl g43) ?_
  refine g_X14_387 dX14_join_154 rfl (hz.o12 hv42) (hz.r777 hv42) ?_
  refine w_iload_n 1 dX14_join_157 rfl rfl rfl ?_
  refine w_iload 5 dX14_join_158 rfl rfl ?_
  obtain ⟨g44, hr⟩ := gd hr
  refine w_iast dX14_join_160 rfl (hz.k777 hv42) (gin (hz.n777 hv42) g44) ?_
  obtain ⟨ρ45, e46, hr⟩ := lt_e hr
  have hz := (hz.s777 (i := (Int32.toNatClampNeg x1)) (v := y5) hv42).tr e46
  refine w_aload_n 0 dX14_join_161 rfl rfl rfl ?_
  obtain ⟨g48, hr⟩ := gd hr
  have hv47 := hz.ww909 (p := 0) (s := 0) rfl g48
  refine g_X14_232 dX14_join_162 rfl (hz.o14 rfl) (hz.rr909 rfl g48) ?_
  refine g_X14_396 dX14_join_165 rfl (hz.o12 hv47) (hz.r778 hv47) ?_
  refine w_iload_n 1 dX14_join_168 rfl rfl rfl ?_
  refine w_iload 6 dX14_join_169 rfl rfl ?_
  obtain ⟨g49, hr⟩ := gd hr
  refine w_iast dX14_join_171 rfl (hz.k778 hv47) (gin (hz.n778 hv47) g49) ?_
  obtain ⟨ρ50, e51, hr⟩ := lt_e hr
  have hz := (hz.s778 (i := (Int32.toNatClampNeg x1)) (v := y6) hv47).tr e51
  refine w_aload_n 0 dX14_join_172 rfl rfl rfl ?_
  obtain ⟨g53, hr⟩ := gd hr
  have hv52 := hz.ww909 (p := 0) (s := 0) rfl g53
  refine g_X14_232 dX14_join_173 rfl (hz.o14 rfl) (hz.rr909 rfl g53) ?_
  refine g_X14_369 dX14_join_176 rfl (hz.o12 hv52) (hz.r775 hv52) ?_
  refine w_iload_n 1 dX14_join_179 rfl rfl rfl ?_
  refine w_aload_n 0 dX14_join_180 rfl rfl rfl ?_
  refine w_iconst 0 dX14_join_181 rfl rfl ?_
  obtain ⟨v54, ρ55, e56, hr⟩ := bw_some hr
  rcases v54 with w58e | w58
  · obtain ⟨rfl, rfl⟩ := rete (bw_er hr)
    refine c_X14_372 (As := [.int 0]) (rest := [.int x1, .ref (A 1799 (zR ρ50 909 0 0 0).1 0)]) (fun l => e_X14_numberIn  hz e56 l) hrm dX14_join_182 rfl rfl (Nat.le_of_ble_eq_true rfl) (Nat.le_of_ble_eq_true rfl) (Nat.le_of_ble_eq_true rfl) (hz.o14 rfl) rfl (Nat.le_of_ble_eq_true rfl) (fun vr h2 hq => hq.elim) (fun E9 h9 hq => ?_)
    exact w_out hf (Nat.le_of_ble_eq_true rfl) (Nat.le_of_ble_eq_true rfl) hq
  have hr := bw_ok hr
  refine c_X14_372 (As := [.int 0]) (rest := [.int x1, .ref (A 1799 (zR ρ50 909 0 0 0).1 0)]) (fun l => t_X14_numberIn  hz e56 l) hrm dX14_join_182 rfl rfl (Nat.le_of_ble_eq_true rfl) (Nat.le_of_ble_eq_true rfl) (Nat.le_of_ble_eq_true rfl) (hz.o14 rfl) rfl (Nat.le_of_ble_eq_true rfl) (fun vr h2 hq => ?_) (fun E9 h9 hq => hq.elim)
  obtain ⟨rfl, hz⟩ := hq
  show wp _ _ 185 [(0, .ref (A 14 0 0)), (1, .int x1), (2, .int x2), (3, .int y3), (4, .int y4), (5, .int y5), (6, .int y6)] [.int w58, .int x1, .ref (A 1799 (zR ρ50 909 0 0 0).1 0)] _ _ _
  obtain ⟨g59, hr⟩ := gd hr
  refine w_iast dX14_join_185 rfl (hz.k775 hv52) (gin (hz.n775 hv52) g59) ?_
  obtain ⟨ρ60, e61, hr⟩ := lt_e hr
  have hz := (hz.s775 (i := (Int32.toNatClampNeg x1)) (v := w58) hv52).tr e61
  refine w_aload_n 0 dX14_join_186 rfl rfl rfl ?_
  refine g_X14_212 dX14_join_187 rfl (hz.o14 rfl) (hz.i906 rfl) ?_
  refine w_if_ne 194 dX14_join_190 rfl rfl (fun q190 => ?_) (fun q190 => ?_)
  · have hr := bf q190 hr
    refine w_aload_n 0 dX14_join_194 rfl rfl rfl ?_
    refine w_iload_n 2 dX14_join_195 rfl rfl rfl ?_
    refine w_iconst (-1) dX14_join_196 rfl rfl ?_
    obtain ⟨v62, ρ63, e64, hr⟩ := bq_some hr
    refine c_X14_375 (As := [.int x2, .int (-1)]) (rest := []) (fun l => s_X14_sayAll  hz e64 l) hrm dX14_join_197 rfl rfl (Nat.le_of_ble_eq_true rfl) (Nat.le_of_ble_eq_true rfl) (Nat.le_of_ble_eq_true rfl) (hz.o14 rfl) rfl (Nat.le_of_ble_eq_true rfl) (fun vr h2 hq => ?_) (fun E9 h9 hq => hq.elim)
    obtain ⟨rfl, hz⟩ := hq
    show wp _ _ 200 [(0, .ref (A 14 0 0)), (1, .int x1), (2, .int x2), (3, .int y3), (4, .int y4), (5, .int y5), (6, .int y6)] [] _ _ _
    refine w_aload_n 0 dX14_join_200 rfl rfl rfl ?_
    refine g_X14_313 dX14_join_201 rfl (hz.o14 rfl) (hz.i911 rfl) ?_
    refine w_istore [(7, .int (zI ρ63 911 0 0 0)), (0, .ref (A 14 0 0)), (1, .int x1), (2, .int x2), (3, .int y3), (4, .int y4), (5, .int y5), (6, .int y6)] dX14_join_204 rfl (by decide) rfl ?_
    refine w_aload_n 1 dX14_join_206 rfl rfl rfl ?_
    refine w_iload 5 dX14_join_207 rfl rfl ?_
    refine w_iload 7 dX14_join_209 rfl rfl ?_
    obtain ⟨v66, ρ67, e68, hr⟩ := bq_some hr
    refine c_X14_375 (As := [.int y4, .int y6]) (rest := []) (fun l => s_X14_sayAll  hz e68 l) hrm dX14_join_211 rfl rfl (Nat.le_of_ble_eq_true rfl) (Nat.le_of_ble_eq_true rfl) (Nat.le_of_ble_eq_true rfl) (hz.o14 rfl) rfl (Nat.le_of_ble_eq_true rfl) (fun vr h2 hq => ?_) (fun E9 h9 hq => hq.elim)
    obtain ⟨rfl, hz⟩ := hq
    show wp _ _ 214 [(7, .int (zI ρ63 911 0 0 0)), (0, .ref (A 14 0 0)), (1, .int x1), (2, .int x2), (3, .int y3), (4, .int y4), (5, .int y5), (6, .int y6)] [] _ _ _
    refine w_iload 0 dX14_join_214 rfl rfl ?_
    refine w_istore [(8, .int (zI ρ63 911 0 0 0)), (7, .int (zI ρ63 911 0 0 0)), (0, .ref (A 14 0 0)), (1, .int x1), (2, .int x2), (3, .int y3), (4, .int y4), (5, .int y5), (6, .int y6)] dX14_join_216 rfl (by decide) rfl ?_
    refine w_lv [(0, .ref (A 14 0 0)), (1, .int x1), (2, .int x2), (3, .int y3), (7, .int (zI ρ63 911 0 0 0)), (8, .int (zI ρ63 911 0 0 0))] [2, 3, 4, 5, 1, 0] rfl ?_
    exact x_X14_join_218 hf hrm   FU y3 (zI ρ63 911 0 0 0) (zI ρ63 911 0 0 0) _ _ hz  hr
  · have hr := bt q190 hr
    exact noek hr
set_option maxRecDepth 20000 in
set_option maxHeartbeats 4000000 in
theorem x_X14_join_68 {A : Nat → Nat → Nat → Nat} {σ ρ' : Zs} {v : Int32 × Int32} {x : Cxt} {x1 : Int32} {x2 : Int32}  (hf : m_fin 1 8 QF (XW A v σ ρ') x) (hrm : m_rm 16 1 8 x)  : ∀ (y3 : Int32) (y4 : Int32) (z0 : Int32) (ρ : Zs) (h : Hp), Rp A h σ ρ → fX14_join_68 x1 x2  y3 y4 z0 ρ = some (.error v, ρ') → wp x mX14_join 68 [(0, .ref (A 14 0 0)), (1, .int x1), (2, .int x2), (3, .int y3), (4, .int y4)] [.int z0] h 0 0 := by
  intro y3 y4 z0 ρ h hz hr
  rw [fX14_join_68.eq_1] at hr
  refine w_istore [(5, .int z0), (0, .ref (A 14 0 0)), (1, .int x1), (2, .int x2), (3, .int y3), (4, .int y4)] dX14_join_68 rfl (by decide) rfl ?_
  refine w_aload_n 1 dX14_join_70 rfl rfl rfl ?_
  refine g_X14_212 dX14_join_71 rfl (hz.o14 rfl) (hz.i906 rfl) ?_
  refine w_if_eq 95 dX14_join_74 rfl rfl (fun q74 => ?_) (fun q74 => ?_)
  · have hr := bt q74 hr
    refine w_iconst 0 dX14_join_95 rfl rfl ?_
    refine w_istore [(6, .int 0), (5, .int z0), (0, .ref (A 14 0 0)), (1, .int x1), (2, .int x2), (3, .int y3), (4, .int y4)] dX14_join_96 rfl (by decide) rfl ?_
    refine w_aload_n 2 dX14_join_98 rfl rfl rfl ?_
    refine w_iload 1 dX14_join_99 rfl rfl ?_
    refine w_iconst (-1) dX14_join_101 rfl rfl ?_
    refine w_icmp_eq 115 dX14_join_102 rfl rfl (fun q102 => ?_) (fun q102 => ?_)
    · have hr := bt q102 hr
      refine w_iconst 0 dX14_join_115 rfl rfl ?_
      refine w_lv [(0, .ref (A 14 0 0)), (1, .int x1), (2, .int x2), (3, .int y3), (4, .int y4), (5, .int z0), (6, .int 0)] [2, 3, 4, 5, 6, 1, 0] rfl ?_
      exact x_X14_join_116 hf hrm   y3 y4 z0 0 0 _ _ hz  hr
    · have hr := bf q102 hr
      refine w_iload 0 dX14_join_105 rfl rfl ?_
      refine w_iconst (-1) dX14_join_107 rfl rfl ?_
      refine w_icmp_eq 115 dX14_join_108 rfl rfl (fun q108 => ?_) (fun q108 => ?_)
      · have hr := bt q108 hr
        refine w_iconst 0 dX14_join_115 rfl rfl ?_
        refine w_lv [(0, .ref (A 14 0 0)), (1, .int x1), (2, .int x2), (3, .int y3), (4, .int y4), (5, .int z0), (6, .int 0)] [2, 3, 4, 5, 6, 1, 0] rfl ?_
        exact x_X14_join_116 hf hrm   y3 y4 z0 0 0 _ _ hz  hr
      · have hr := bf q108 hr
        refine w_iconst 1 dX14_join_111 rfl rfl ?_
        refine w_goto 116 dX14_join_112 rfl ?_
        refine w_lv [(0, .ref (A 14 0 0)), (1, .int x1), (2, .int x2), (3, .int y3), (4, .int y4), (5, .int z0), (6, .int 0)] [2, 3, 4, 5, 6, 1, 0] rfl ?_
        exact x_X14_join_116 hf hrm   y3 y4 z0 0 1 _ _ hz  hr
  · have hr := bf q74 hr
    refine w_aload_n 1 dX14_join_77 rfl rfl rfl ?_
    refine w_iload 5 dX14_join_78 rfl rfl ?_
    refine w_aload_n 1 dX14_join_80 rfl rfl rfl ?_
    refine g_X14_30 dX14_join_81 rfl (hz.o14 rfl) (hz.r904 rfl) ?_
    refine w_aload_n 1 dX14_join_84 rfl rfl rfl ?_
    refine g_X14_204 dX14_join_85 rfl (hz.o14 rfl) (hz.i905 rfl) ?_
    obtain ⟨g85, hr⟩ := gd hr
    refine w_lald dX14_join_88 rfl (hz.k904 rfl) (gin (hz.n904 rfl) g85) (hz.x904 rfl) ?_
    obtain ⟨v86, ρ87, e88, hr⟩ := bq_some hr
    refine c_X14_273 (As := [.int y4, .long (zJ ρ 1928 0 0 (Int32.toNatClampNeg (zI ρ 905 0 0 0)))]) (rest := []) (fun l => s_X14_columnOf  hz e88 l) hrm dX14_join_89 rfl rfl (Nat.le_of_ble_eq_true rfl) (Nat.le_of_ble_eq_true rfl) (Nat.le_of_ble_eq_true rfl) (hz.o14 rfl) rfl (Nat.le_of_ble_eq_true rfl) (fun vr h2 hq => ?_) (fun E9 h9 hq => hq.elim)
    obtain ⟨rfl, hz⟩ := hq
    show wp _ _ 92 [(5, .int z0), (0, .ref (A 14 0 0)), (1, .int x1), (2, .int x2), (3, .int y3), (4, .int y4)] [.int v86] _ _ _
    refine w_goto 96 dX14_join_92 rfl ?_
    refine w_istore [(6, .int v86), (5, .int z0), (0, .ref (A 14 0 0)), (1, .int x1), (2, .int x2), (3, .int y3), (4, .int y4)] dX14_join_96 rfl (by decide) rfl ?_
    refine w_aload_n 2 dX14_join_98 rfl rfl rfl ?_
    refine w_iload 1 dX14_join_99 rfl rfl ?_
    refine w_iconst (-1) dX14_join_101 rfl rfl ?_
    refine w_icmp_eq 115 dX14_join_102 rfl rfl (fun q102 => ?_) (fun q102 => ?_)
    · have hr := bt q102 hr
      refine w_iconst 0 dX14_join_115 rfl rfl ?_
      refine w_lv [(0, .ref (A 14 0 0)), (1, .int x1), (2, .int x2), (3, .int y3), (4, .int y4), (5, .int z0), (6, .int v86)] [2, 3, 4, 5, 6, 1, 0] rfl ?_
      exact x_X14_join_116 hf hrm   y3 y4 z0 v86 0 _ _ hz  hr
    · have hr := bf q102 hr
      refine w_iload 0 dX14_join_105 rfl rfl ?_
      refine w_iconst (-1) dX14_join_107 rfl rfl ?_
      refine w_icmp_eq 115 dX14_join_108 rfl rfl (fun q108 => ?_) (fun q108 => ?_)
      · have hr := bt q108 hr
        refine w_iconst 0 dX14_join_115 rfl rfl ?_
        refine w_lv [(0, .ref (A 14 0 0)), (1, .int x1), (2, .int x2), (3, .int y3), (4, .int y4), (5, .int z0), (6, .int v86)] [2, 3, 4, 5, 6, 1, 0] rfl ?_
        exact x_X14_join_116 hf hrm   y3 y4 z0 v86 0 _ _ hz  hr
      · have hr := bf q108 hr
        refine w_iconst 1 dX14_join_111 rfl rfl ?_
        refine w_goto 116 dX14_join_112 rfl ?_
        refine w_lv [(0, .ref (A 14 0 0)), (1, .int x1), (2, .int x2), (3, .int y3), (4, .int y4), (5, .int z0), (6, .int v86)] [2, 3, 4, 5, 6, 1, 0] rfl ?_
        exact x_X14_join_116 hf hrm   y3 y4 z0 v86 1 _ _ hz  hr
set_option maxRecDepth 20000 in
set_option maxHeartbeats 4000000 in
theorem e_X14_join {A : Nat → Nat → Nat → Nat} {h : Hp} {σ ρ ρ' : Zs} {v : Int32 × Int32} {x1 : Int32} {x2 : Int32}  (hz : Rp A h σ ρ) (hr : fX14_join x1 x2 ρ = some (.error v, ρ')) : ∀ l : Launch, Sp l mX14_join 16 1 8 [.ref (A 14 0 0), .int x1, .int x2] h QF (XW A v σ ρ') := by
  intro l
  refine Sp.of rfl rfl (lv := [(0, .ref (A 14 0 0)), (1, .int x1), (2, .int x2)]) (Nat.le_of_ble_eq_true rfl) rfl (fun x hf hrm => ?_)
  rw [fX14_join.eq_1] at hr
  refine w_aload_n 0 dX14_join_0 rfl rfl rfl ?_
  refine w_bipush 102 dX14_join_1 rfl rfl ?_
  obtain ⟨v1, ρ2, e3, hr⟩ := bw_some hr
  rcases v1 with w5e | w5
  · obtain ⟨rfl, rfl⟩ := rete (bw_er hr)
    refine c_X14_284 (As := [.int 102]) (rest := []) (fun l => e_X14_take_  hz e3 l) hrm dX14_join_3 rfl rfl (Nat.le_of_ble_eq_true rfl) (Nat.le_of_ble_eq_true rfl) (Nat.le_of_ble_eq_true rfl) (hz.o14 rfl) rfl (Nat.le_of_ble_eq_true rfl) (fun vr h2 hq => hq.elim) (fun E9 h9 hq => ?_)
    exact w_out hf (Nat.le_of_ble_eq_true rfl) (Nat.le_of_ble_eq_true rfl) hq
  have hr := bw_ok hr
  refine c_X14_284 (As := [.int 102]) (rest := []) (fun l => t_X14_take_  hz e3 l) hrm dX14_join_3 rfl rfl (Nat.le_of_ble_eq_true rfl) (Nat.le_of_ble_eq_true rfl) (Nat.le_of_ble_eq_true rfl) (hz.o14 rfl) rfl (Nat.le_of_ble_eq_true rfl) (fun vr h2 hq => ?_) (fun E9 h9 hq => hq.elim)
  obtain ⟨rfl, hz⟩ := hq
  show wp _ _ 6 [(0, .ref (A 14 0 0)), (1, .int x1), (2, .int x2)] [] _ _ _
  refine w_aload_n 0 dX14_join_6 rfl rfl rfl ?_
  refine g_X14_27 dX14_join_7 rfl (hz.o14 rfl) (hz.r903 rfl) ?_
  refine w_aload_n 0 dX14_join_10 rfl rfl rfl ?_
  refine g_X14_204 dX14_join_11 rfl (hz.o14 rfl) (hz.i905 rfl) ?_
  obtain ⟨g6, hr⟩ := gd hr
  refine w_iald dX14_join_14 rfl (hz.k903 rfl) (gin (hz.n903 rfl) g6) (hz.x903 rfl) ?_
  refine w_istore_n [(3, .int (zI ρ2 1927 0 0 (Int32.toNatClampNeg (zI ρ2 905 0 0 0)))), (0, .ref (A 14 0 0)), (1, .int x1), (2, .int x2)] dX14_join_15 rfl rfl (by decide) rfl ?_
  refine w_aload_n 1 dX14_join_16 rfl rfl rfl ?_
  obtain ⟨v7, ρ8, e9, hr⟩ := bw_some hr
  rcases v7 with w11e | w11
  · obtain ⟨rfl, rfl⟩ := rete (bw_er hr)
    refine c_X14_344 (As := []) (rest := []) (fun l => e_X14_streamNamed  hz e9 l) hrm dX14_join_17 rfl rfl (Nat.le_of_ble_eq_true rfl) (Nat.le_of_ble_eq_true rfl) (Nat.le_of_ble_eq_true rfl) (hz.o14 rfl) rfl (Nat.le_of_ble_eq_true rfl) (fun vr h2 hq => hq.elim) (fun E9 h9 hq => ?_)
    exact w_out hf (Nat.le_of_ble_eq_true rfl) (Nat.le_of_ble_eq_true rfl) hq
  have hr := bw_ok hr
  refine c_X14_344 (As := []) (rest := []) (fun l => t_X14_streamNamed  hz e9 l) hrm dX14_join_17 rfl rfl (Nat.le_of_ble_eq_true rfl) (Nat.le_of_ble_eq_true rfl) (Nat.le_of_ble_eq_true rfl) (hz.o14 rfl) rfl (Nat.le_of_ble_eq_true rfl) (fun vr h2 hq => ?_) (fun E9 h9 hq => hq.elim)
  obtain ⟨rfl, hz⟩ := hq
  show wp _ _ 20 [(3, .int (zI ρ2 1927 0 0 (Int32.toNatClampNeg (zI ρ2 905 0 0 0)))), (0, .ref (A 14 0 0)), (1, .int x1), (2, .int x2)] [.int w11] _ _ _
  refine w_istore [(4, .int w11), (3, .int (zI ρ2 1927 0 0 (Int32.toNatClampNeg (zI ρ2 905 0 0 0)))), (0, .ref (A 14 0 0)), (1, .int x1), (2, .int x2)] dX14_join_20 rfl (by decide) rfl ?_
  refine w_aload_n 2 dX14_join_22 rfl rfl rfl ?_
  refine w_bipush 10 dX14_join_23 rfl rfl ?_
  obtain ⟨v12, ρ13, e14, hr⟩ := bw_some hr
  rcases v12 with w16e | w16
  · obtain ⟨rfl, rfl⟩ := rete (bw_er hr)
    refine c_X14_284 (As := [.int 10]) (rest := []) (fun l => e_X14_take_  hz e14 l) hrm dX14_join_25 rfl rfl (Nat.le_of_ble_eq_true rfl) (Nat.le_of_ble_eq_true rfl) (Nat.le_of_ble_eq_true rfl) (hz.o14 rfl) rfl (Nat.le_of_ble_eq_true rfl) (fun vr h2 hq => hq.elim) (fun E9 h9 hq => ?_)
    exact w_out hf (Nat.le_of_ble_eq_true rfl) (Nat.le_of_ble_eq_true rfl) hq
  have hr := bw_ok hr
  refine c_X14_284 (As := [.int 10]) (rest := []) (fun l => t_X14_take_  hz e14 l) hrm dX14_join_25 rfl rfl (Nat.le_of_ble_eq_true rfl) (Nat.le_of_ble_eq_true rfl) (Nat.le_of_ble_eq_true rfl) (hz.o14 rfl) rfl (Nat.le_of_ble_eq_true rfl) (fun vr h2 hq => ?_) (fun E9 h9 hq => hq.elim)
  obtain ⟨rfl, hz⟩ := hq
  show wp _ _ 28 [(4, .int w11), (3, .int (zI ρ2 1927 0 0 (Int32.toNatClampNeg (zI ρ2 905 0 0 0)))), (0, .ref (A 14 0 0)), (1, .int x1), (2, .int x2)] [] _ _ _
  refine w_aload_n 2 dX14_join_28 rfl rfl rfl ?_
  refine w_sipush 200 dX14_join_29 rfl rfl ?_
  obtain ⟨v17, ρ18, e19, hr⟩ := bq_some hr
  refine c_X14_223 (As := [.int 200]) (rest := []) (fun l => s_X14_is  hz e19 l) hrm dX14_join_32 rfl rfl (Nat.le_of_ble_eq_true rfl) (Nat.le_of_ble_eq_true rfl) (Nat.le_of_ble_eq_true rfl) (hz.o14 rfl) rfl (Nat.le_of_ble_eq_true rfl) (fun vr h2 hq => ?_) (fun E9 h9 hq => hq.elim)
  obtain ⟨rfl, hz⟩ := hq
  show wp _ _ 35 [(4, .int w11), (3, .int (zI ρ2 1927 0 0 (Int32.toNatClampNeg (zI ρ2 905 0 0 0)))), (0, .ref (A 14 0 0)), (1, .int x1), (2, .int x2)] [.int v17] _ _ _
  refine w_if_ne 43 dX14_join_35 rfl rfl (fun q35 => ?_) (fun q35 => ?_)
  · have hr := bf q35 hr
    refine w_aload_n 2 dX14_join_43 rfl rfl rfl ?_
    refine g_X14_212 dX14_join_44 rfl (hz.o14 rfl) (hz.i906 rfl) ?_
    refine w_if_eq 67 dX14_join_47 rfl rfl (fun q47 => ?_) (fun q47 => ?_)
    · have hr := bt q47 hr
      refine w_iconst 0 dX14_join_67 rfl rfl ?_
      refine w_lv [(0, .ref (A 14 0 0)), (1, .int x1), (2, .int x2), (3, .int (zI ρ2 1927 0 0 (Int32.toNatClampNeg (zI ρ2 905 0 0 0)))), (4, .int w11)] [2, 3, 4, 1, 0] rfl ?_
      exact x_X14_join_68 hf hrm   (zI ρ2 1927 0 0 (Int32.toNatClampNeg (zI ρ2 905 0 0 0))) w11 0 _ _ hz  hr
    · have hr := bf q47 hr
      refine w_aload_n 2 dX14_join_50 rfl rfl rfl ?_
      refine w_iload_n 4 dX14_join_51 rfl rfl rfl ?_
      refine w_aload_n 2 dX14_join_52 rfl rfl rfl ?_
      refine g_X14_30 dX14_join_53 rfl (hz.o14 rfl) (hz.r904 rfl) ?_
      refine w_aload_n 2 dX14_join_56 rfl rfl rfl ?_
      refine g_X14_204 dX14_join_57 rfl (hz.o14 rfl) (hz.i905 rfl) ?_
      obtain ⟨g90, hr⟩ := gd hr
      refine w_lald dX14_join_60 rfl (hz.k904 rfl) (gin (hz.n904 rfl) g90) (hz.x904 rfl) ?_
      obtain ⟨v91, ρ92, e93, hr⟩ := bq_some hr
      refine c_X14_273 (As := [.int x2, .long (zJ ρ18 1928 0 0 (Int32.toNatClampNeg (zI ρ18 905 0 0 0)))]) (rest := []) (fun l => s_X14_columnOf  hz e93 l) hrm dX14_join_61 rfl rfl (Nat.le_of_ble_eq_true rfl) (Nat.le_of_ble_eq_true rfl) (Nat.le_of_ble_eq_true rfl) (hz.o14 rfl) rfl (Nat.le_of_ble_eq_true rfl) (fun vr h2 hq => ?_) (fun E9 h9 hq => hq.elim)
      obtain ⟨rfl, hz⟩ := hq
      show wp _ _ 64 [(4, .int w11), (3, .int (zI ρ2 1927 0 0 (Int32.toNatClampNeg (zI ρ2 905 0 0 0)))), (0, .ref (A 14 0 0)), (1, .int x1), (2, .int x2)] [.int v91] _ _ _
      refine w_goto 68 dX14_join_64 rfl ?_
      refine w_lv [(0, .ref (A 14 0 0)), (1, .int x1), (2, .int x2), (3, .int (zI ρ2 1927 0 0 (Int32.toNatClampNeg (zI ρ2 905 0 0 0)))), (4, .int w11)] [2, 3, 4, 1, 0] rfl ?_
      exact x_X14_join_68 hf hrm   (zI ρ2 1927 0 0 (Int32.toNatClampNeg (zI ρ2 905 0 0 0))) w11 v91 _ _ hz  hr
  · have hr := bt q35 hr
    refine w_aload_n 2 dX14_join_38 rfl rfl rfl ?_
    obtain ⟨w95, ρ96, e97, hr⟩ := bq_some hr
    refine c_X14_219 (As := []) (rest := []) (fun l => s_X14_wrong hz e97 l) hrm dX14_join_39 rfl rfl (Nat.le_of_ble_eq_true rfl) (Nat.le_of_ble_eq_true rfl) (Nat.le_of_ble_eq_true rfl) (hz.o14 rfl) rfl (Nat.le_of_ble_eq_true rfl) (fun vr h2 hq => ?_) (fun E9 h9 hq => hq.elim)
    obtain ⟨q, rfl, hq⟩ := hq
    obtain ⟨rfl, rfl⟩ := rete hr
    show wp _ _ 42 [(4, .int w11), (3, .int (zI ρ2 1927 0 0 (Int32.toNatClampNeg (zI ρ2 905 0 0 0)))), (0, .ref (A 14 0 0)), (1, .int x1), (2, .int x2)] [.ref q] _ _ _
    refine w_athrow dX14_join_42 (q := q) hq.1 ?_
    exact w_out hf (Nat.le_of_ble_eq_true rfl) (Nat.le_of_ble_eq_true rfl) hq.gh

set_option maxRecDepth 20000 in
set_option maxHeartbeats 4000000 in
theorem t_X14_totalOne {A : Nat → Nat → Nat → Nat} {h : Hp} {σ ρ ρ' : Zs} {v : Unit}   (hz : Rp A h σ ρ) (hr : fX14_totalOne  ρ = some (.ok v, ρ')) : ∀ l : Launch, Sp l mX14_totalOne 97 0 0 [.ref (A 14 0 0)] h (QV A v σ ρ') X0 := by
  intro l
  refine Sp.of rfl rfl (lv := [(0, .ref (A 14 0 0))]) (Nat.le_of_ble_eq_true rfl) rfl (fun x hf hrm => ?_)
  rw [fX14_totalOne.eq_1] at hr
  refine w_aload_n 0 dX14_totalOne_0 rfl rfl rfl ?_
  obtain ⟨v1, ρ2, e3, hr⟩ := bw_some hr
  rcases v1 with w5e | w5
  · exact noko (bw_er hr)
  have hr := bw_ok hr
  refine c_X14_364 (As := []) (rest := []) (fun l => t_X14_newColumn  hz e3 l) hrm dX14_totalOne_1 rfl rfl (Nat.le_of_ble_eq_true rfl) (Nat.le_of_ble_eq_true rfl) (Nat.le_of_ble_eq_true rfl) (hz.o14 rfl) rfl (Nat.le_of_ble_eq_true rfl) (fun vr h2 hq => ?_) (fun E9 h9 hq => hq.elim)
  obtain ⟨rfl, hz⟩ := hq
  show wp _ _ 4 [(0, .ref (A 14 0 0))] [.long w5] _ _ _
  refine w_lstore_n [(1, .long w5), (0, .ref (A 14 0 0))] dX14_totalOne_4 rfl rfl (by decide) rfl ?_
  refine w_aload_n 1 dX14_totalOne_5 rfl rfl rfl ?_
  refine w_bipush 104 dX14_totalOne_6 rfl rfl ?_
  obtain ⟨v6, ρ7, e8, hr⟩ := bw_some hr
  rcases v6 with w10e | w10
  · exact noko (bw_er hr)
  have hr := bw_ok hr
  refine c_X14_284 (As := [.int 104]) (rest := []) (fun l => t_X14_take_  hz e8 l) hrm dX14_totalOne_8 rfl rfl (Nat.le_of_ble_eq_true rfl) (Nat.le_of_ble_eq_true rfl) (Nat.le_of_ble_eq_true rfl) (hz.o14 rfl) rfl (Nat.le_of_ble_eq_true rfl) (fun vr h2 hq => ?_) (fun E9 h9 hq => hq.elim)
  obtain ⟨rfl, hz⟩ := hq
  show wp _ _ 11 [(1, .long w5), (0, .ref (A 14 0 0))] [] _ _ _
  refine w_aload_n 1 dX14_totalOne_11 rfl rfl rfl ?_
  refine g_X14_24 dX14_totalOne_12 rfl (hz.o14 rfl) (hz.r902 rfl) ?_
  refine w_aload_n 1 dX14_totalOne_15 rfl rfl rfl ?_
  refine g_X14_204 dX14_totalOne_16 rfl (hz.o14 rfl) (hz.i905 rfl) ?_
  obtain ⟨g11, hr⟩ := gd hr
  refine w_iald dX14_totalOne_19 rfl (hz.k902 rfl) (gin (hz.n902 rfl) g11) (hz.x902 rfl) ?_
  refine w_istore_n [(3, .int (zI ρ7 1926 0 0 (Int32.toNatClampNeg (zI ρ7 905 0 0 0)))), (1, .long w5), (0, .ref (A 14 0 0))] dX14_totalOne_20 rfl rfl (by decide) rfl ?_
  refine w_iload_n 0 dX14_totalOne_21 rfl rfl rfl ?_
  refine w_i2l dX14_totalOne_22 rfl ?_
  refine w_ldc2 dX14_totalOne_23 rfl k_X14_407 ?_
  refine w_ldc2 dX14_totalOne_26 rfl k_X14_409 ?_
  obtain ⟨v12, ρ13, e14, hr⟩ := bq_some hr
  refine c_X14_163 (b := 0) (As := [.long (((zI ρ7 1926 0 0 (Int32.toNatClampNeg (zI ρ7 905 0 0 0))) : Int32).toInt64), .long 22, .long 26]) (rest := []) (fun l => s_X14_isIn  hz e14 l) hrm dX14_totalOne_29 rfl rfl (Nat.le_of_ble_eq_true rfl) (Nat.le_of_ble_eq_true rfl) (Nat.le_of_ble_eq_true rfl) rfl (Nat.le_of_ble_eq_true rfl) (fun vr h2 hq => ?_) (fun E9 h9 hq => hq.elim)
  obtain ⟨rfl, hz⟩ := hq
  show wp _ _ 32 [(3, .int (zI ρ7 1926 0 0 (Int32.toNatClampNeg (zI ρ7 905 0 0 0)))), (1, .long w5), (0, .ref (A 14 0 0))] [.int v12] _ _ _
  refine w_if_ne 40 dX14_totalOne_32 rfl rfl (fun q32 => ?_) (fun q32 => ?_)
  · have hr := bf q32 hr
    refine w_aload_n 2 dX14_totalOne_40 rfl rfl rfl ?_
    obtain ⟨v16, ρ17, e18, hr⟩ := bw_some hr
    rcases v16 with w20e | w20
    · exact noko (bw_er hr)
    have hr := bw_ok hr
    refine c_X14_226 (As := []) (rest := []) (fun l => t_X14_take  hz e18 l) hrm dX14_totalOne_41 rfl rfl (Nat.le_of_ble_eq_true rfl) (Nat.le_of_ble_eq_true rfl) (Nat.le_of_ble_eq_true rfl) (hz.o14 rfl) rfl (Nat.le_of_ble_eq_true rfl) (fun vr h2 hq => ?_) (fun E9 h9 hq => hq.elim)
    obtain ⟨rfl, hz⟩ := hq
    show wp _ _ 44 [(3, .int (zI ρ7 1926 0 0 (Int32.toNatClampNeg (zI ρ7 905 0 0 0)))), (1, .long w5), (0, .ref (A 14 0 0))] [] _ _ _
    refine w_aload_n 2 dX14_totalOne_44 rfl rfl rfl ?_
    refine w_lload_n 1 dX14_totalOne_45 rfl rfl rfl ?_
    refine w_iload_n 0 dX14_totalOne_46 rfl rfl rfl ?_
    refine w_bipush 23 dX14_totalOne_47 rfl rfl ?_
    refine w_icmp_ne 56 dX14_totalOne_49 rfl rfl (fun q49 => ?_) (fun q49 => ?_)
    · have hr := bf q49 hr
      refine w_aload_n 2 dX14_totalOne_56 rfl rfl rfl ?_
      obtain ⟨v21, ρ22, e23, hr⟩ := bw_some hr
      rcases v21 with w25e | w25
      · exact noko (bw_er hr)
      have hr := bw_ok hr
      refine c_X14_348 (As := []) (rest := [.long w5, .ref (A 14 0 0)]) (fun l => t_X14_whole  hz e23 l) hrm dX14_totalOne_57 rfl rfl (Nat.le_of_ble_eq_true rfl) (Nat.le_of_ble_eq_true rfl) (Nat.le_of_ble_eq_true rfl) (hz.o14 rfl) rfl (Nat.le_of_ble_eq_true rfl) (fun vr h2 hq => ?_) (fun E9 h9 hq => hq.elim)
      obtain ⟨rfl, hz⟩ := hq
      show wp _ _ 60 [(3, .int (zI ρ7 1926 0 0 (Int32.toNatClampNeg (zI ρ7 905 0 0 0)))), (1, .long w5), (0, .ref (A 14 0 0))] [.int w25, .long w5, .ref (A 14 0 0)] _ _ _
      refine w_iload_n 0 dX14_totalOne_60 rfl rfl rfl ?_
      obtain ⟨v26, ρ27, e28, hr⟩ := bq_some hr
      refine c_X14_316 (As := [.long w5, .int w25, .int (zI ρ7 1926 0 0 (Int32.toNatClampNeg (zI ρ7 905 0 0 0)))]) (rest := []) (fun l => s_X14_say  hz e28 l) hrm dX14_totalOne_61 rfl rfl (Nat.le_of_ble_eq_true rfl) (Nat.le_of_ble_eq_true rfl) (Nat.le_of_ble_eq_true rfl) (hz.o14 rfl) rfl (Nat.le_of_ble_eq_true rfl) (fun vr h2 hq => ?_) (fun E9 h9 hq => hq.elim)
      obtain ⟨rfl, hz⟩ := hq
      show wp _ _ 64 [(3, .int (zI ρ7 1926 0 0 (Int32.toNatClampNeg (zI ρ7 905 0 0 0)))), (1, .long w5), (0, .ref (A 14 0 0))] [] _ _ _
      refine w_vret hf dX14_totalOne_64 rfl (Nat.le_of_ble_eq_true rfl) (Nat.le_of_ble_eq_true rfl) ?_
      obtain ⟨rfl, rfl⟩ := retw hr
      exact ⟨rfl, hz⟩
    · have hr := bt q49 hr
      refine w_iconst 0 dX14_totalOne_52 rfl rfl ?_
      refine w_goto 60 dX14_totalOne_53 rfl ?_
      refine w_iload_n 0 dX14_totalOne_60 rfl rfl rfl ?_
      obtain ⟨v30, ρ31, e32, hr⟩ := bq_some hr
      refine c_X14_316 (As := [.long w5, .int 0, .int (zI ρ7 1926 0 0 (Int32.toNatClampNeg (zI ρ7 905 0 0 0)))]) (rest := []) (fun l => s_X14_say  hz e32 l) hrm dX14_totalOne_61 rfl rfl (Nat.le_of_ble_eq_true rfl) (Nat.le_of_ble_eq_true rfl) (Nat.le_of_ble_eq_true rfl) (hz.o14 rfl) rfl (Nat.le_of_ble_eq_true rfl) (fun vr h2 hq => ?_) (fun E9 h9 hq => hq.elim)
      obtain ⟨rfl, hz⟩ := hq
      show wp _ _ 64 [(3, .int (zI ρ7 1926 0 0 (Int32.toNatClampNeg (zI ρ7 905 0 0 0)))), (1, .long w5), (0, .ref (A 14 0 0))] [] _ _ _
      refine w_vret hf dX14_totalOne_64 rfl (Nat.le_of_ble_eq_true rfl) (Nat.le_of_ble_eq_true rfl) ?_
      obtain ⟨rfl, rfl⟩ := retw hr
      exact ⟨rfl, hz⟩
  · have hr := bt q32 hr
    refine w_aload_n 2 dX14_totalOne_35 rfl rfl rfl ?_
    obtain ⟨w34, ρ35, e36, hr⟩ := bq_some hr
    exact noko hr

set_option maxRecDepth 20000 in
set_option maxHeartbeats 4000000 in
theorem e_X14_totalOne {A : Nat → Nat → Nat → Nat} {h : Hp} {σ ρ ρ' : Zs} {v : Int32 × Int32}   (hz : Rp A h σ ρ) (hr : fX14_totalOne  ρ = some (.error v, ρ')) : ∀ l : Launch, Sp l mX14_totalOne 97 1 8 [.ref (A 14 0 0)] h QF (XW A v σ ρ') := by
  intro l
  refine Sp.of rfl rfl (lv := [(0, .ref (A 14 0 0))]) (Nat.le_of_ble_eq_true rfl) rfl (fun x hf hrm => ?_)
  rw [fX14_totalOne.eq_1] at hr
  refine w_aload_n 0 dX14_totalOne_0 rfl rfl rfl ?_
  obtain ⟨v1, ρ2, e3, hr⟩ := bw_some hr
  rcases v1 with w5e | w5
  · obtain ⟨rfl, rfl⟩ := rete (bw_er hr)
    refine c_X14_364 (As := []) (rest := []) (fun l => e_X14_newColumn  hz e3 l) hrm dX14_totalOne_1 rfl rfl (Nat.le_of_ble_eq_true rfl) (Nat.le_of_ble_eq_true rfl) (Nat.le_of_ble_eq_true rfl) (hz.o14 rfl) rfl (Nat.le_of_ble_eq_true rfl) (fun vr h2 hq => hq.elim) (fun E9 h9 hq => ?_)
    exact w_out hf (Nat.le_of_ble_eq_true rfl) (Nat.le_of_ble_eq_true rfl) hq
  have hr := bw_ok hr
  refine c_X14_364 (As := []) (rest := []) (fun l => t_X14_newColumn  hz e3 l) hrm dX14_totalOne_1 rfl rfl (Nat.le_of_ble_eq_true rfl) (Nat.le_of_ble_eq_true rfl) (Nat.le_of_ble_eq_true rfl) (hz.o14 rfl) rfl (Nat.le_of_ble_eq_true rfl) (fun vr h2 hq => ?_) (fun E9 h9 hq => hq.elim)
  obtain ⟨rfl, hz⟩ := hq
  show wp _ _ 4 [(0, .ref (A 14 0 0))] [.long w5] _ _ _
  refine w_lstore_n [(1, .long w5), (0, .ref (A 14 0 0))] dX14_totalOne_4 rfl rfl (by decide) rfl ?_
  refine w_aload_n 1 dX14_totalOne_5 rfl rfl rfl ?_
  refine w_bipush 104 dX14_totalOne_6 rfl rfl ?_
  obtain ⟨v6, ρ7, e8, hr⟩ := bw_some hr
  rcases v6 with w10e | w10
  · obtain ⟨rfl, rfl⟩ := rete (bw_er hr)
    refine c_X14_284 (As := [.int 104]) (rest := []) (fun l => e_X14_take_  hz e8 l) hrm dX14_totalOne_8 rfl rfl (Nat.le_of_ble_eq_true rfl) (Nat.le_of_ble_eq_true rfl) (Nat.le_of_ble_eq_true rfl) (hz.o14 rfl) rfl (Nat.le_of_ble_eq_true rfl) (fun vr h2 hq => hq.elim) (fun E9 h9 hq => ?_)
    exact w_out hf (Nat.le_of_ble_eq_true rfl) (Nat.le_of_ble_eq_true rfl) hq
  have hr := bw_ok hr
  refine c_X14_284 (As := [.int 104]) (rest := []) (fun l => t_X14_take_  hz e8 l) hrm dX14_totalOne_8 rfl rfl (Nat.le_of_ble_eq_true rfl) (Nat.le_of_ble_eq_true rfl) (Nat.le_of_ble_eq_true rfl) (hz.o14 rfl) rfl (Nat.le_of_ble_eq_true rfl) (fun vr h2 hq => ?_) (fun E9 h9 hq => hq.elim)
  obtain ⟨rfl, hz⟩ := hq
  show wp _ _ 11 [(1, .long w5), (0, .ref (A 14 0 0))] [] _ _ _
  refine w_aload_n 1 dX14_totalOne_11 rfl rfl rfl ?_
  refine g_X14_24 dX14_totalOne_12 rfl (hz.o14 rfl) (hz.r902 rfl) ?_
  refine w_aload_n 1 dX14_totalOne_15 rfl rfl rfl ?_
  refine g_X14_204 dX14_totalOne_16 rfl (hz.o14 rfl) (hz.i905 rfl) ?_
  obtain ⟨g11, hr⟩ := gd hr
  refine w_iald dX14_totalOne_19 rfl (hz.k902 rfl) (gin (hz.n902 rfl) g11) (hz.x902 rfl) ?_
  refine w_istore_n [(3, .int (zI ρ7 1926 0 0 (Int32.toNatClampNeg (zI ρ7 905 0 0 0)))), (1, .long w5), (0, .ref (A 14 0 0))] dX14_totalOne_20 rfl rfl (by decide) rfl ?_
  refine w_iload_n 0 dX14_totalOne_21 rfl rfl rfl ?_
  refine w_i2l dX14_totalOne_22 rfl ?_
  refine w_ldc2 dX14_totalOne_23 rfl k_X14_407 ?_
  refine w_ldc2 dX14_totalOne_26 rfl k_X14_409 ?_
  obtain ⟨v12, ρ13, e14, hr⟩ := bq_some hr
  refine c_X14_163 (b := 0) (As := [.long (((zI ρ7 1926 0 0 (Int32.toNatClampNeg (zI ρ7 905 0 0 0))) : Int32).toInt64), .long 22, .long 26]) (rest := []) (fun l => s_X14_isIn  hz e14 l) hrm dX14_totalOne_29 rfl rfl (Nat.le_of_ble_eq_true rfl) (Nat.le_of_ble_eq_true rfl) (Nat.le_of_ble_eq_true rfl) rfl (Nat.le_of_ble_eq_true rfl) (fun vr h2 hq => ?_) (fun E9 h9 hq => hq.elim)
  obtain ⟨rfl, hz⟩ := hq
  show wp _ _ 32 [(3, .int (zI ρ7 1926 0 0 (Int32.toNatClampNeg (zI ρ7 905 0 0 0)))), (1, .long w5), (0, .ref (A 14 0 0))] [.int v12] _ _ _
  refine w_if_ne 40 dX14_totalOne_32 rfl rfl (fun q32 => ?_) (fun q32 => ?_)
  · have hr := bf q32 hr
    refine w_aload_n 2 dX14_totalOne_40 rfl rfl rfl ?_
    obtain ⟨v16, ρ17, e18, hr⟩ := bw_some hr
    rcases v16 with w20e | w20
    · obtain ⟨rfl, rfl⟩ := rete (bw_er hr)
      refine c_X14_226 (As := []) (rest := []) (fun l => e_X14_take  hz e18 l) hrm dX14_totalOne_41 rfl rfl (Nat.le_of_ble_eq_true rfl) (Nat.le_of_ble_eq_true rfl) (Nat.le_of_ble_eq_true rfl) (hz.o14 rfl) rfl (Nat.le_of_ble_eq_true rfl) (fun vr h2 hq => hq.elim) (fun E9 h9 hq => ?_)
      exact w_out hf (Nat.le_of_ble_eq_true rfl) (Nat.le_of_ble_eq_true rfl) hq
    have hr := bw_ok hr
    refine c_X14_226 (As := []) (rest := []) (fun l => t_X14_take  hz e18 l) hrm dX14_totalOne_41 rfl rfl (Nat.le_of_ble_eq_true rfl) (Nat.le_of_ble_eq_true rfl) (Nat.le_of_ble_eq_true rfl) (hz.o14 rfl) rfl (Nat.le_of_ble_eq_true rfl) (fun vr h2 hq => ?_) (fun E9 h9 hq => hq.elim)
    obtain ⟨rfl, hz⟩ := hq
    show wp _ _ 44 [(3, .int (zI ρ7 1926 0 0 (Int32.toNatClampNeg (zI ρ7 905 0 0 0)))), (1, .long w5), (0, .ref (A 14 0 0))] [] _ _ _
    refine w_aload_n 2 dX14_totalOne_44 rfl rfl rfl ?_
    refine w_lload_n 1 dX14_totalOne_45 rfl rfl rfl ?_
    refine w_iload_n 0 dX14_totalOne_46 rfl rfl rfl ?_
    refine w_bipush 23 dX14_totalOne_47 rfl rfl ?_
    refine w_icmp_ne 56 dX14_totalOne_49 rfl rfl (fun q49 => ?_) (fun q49 => ?_)
    · have hr := bf q49 hr
      refine w_aload_n 2 dX14_totalOne_56 rfl rfl rfl ?_
      obtain ⟨v21, ρ22, e23, hr⟩ := bw_some hr
      rcases v21 with w25e | w25
      · obtain ⟨rfl, rfl⟩ := rete (bw_er hr)
        refine c_X14_348 (As := []) (rest := [.long w5, .ref (A 14 0 0)]) (fun l => e_X14_whole  hz e23 l) hrm dX14_totalOne_57 rfl rfl (Nat.le_of_ble_eq_true rfl) (Nat.le_of_ble_eq_true rfl) (Nat.le_of_ble_eq_true rfl) (hz.o14 rfl) rfl (Nat.le_of_ble_eq_true rfl) (fun vr h2 hq => hq.elim) (fun E9 h9 hq => ?_)
        exact w_out hf (Nat.le_of_ble_eq_true rfl) (Nat.le_of_ble_eq_true rfl) hq
      have hr := bw_ok hr
      refine c_X14_348 (As := []) (rest := [.long w5, .ref (A 14 0 0)]) (fun l => t_X14_whole  hz e23 l) hrm dX14_totalOne_57 rfl rfl (Nat.le_of_ble_eq_true rfl) (Nat.le_of_ble_eq_true rfl) (Nat.le_of_ble_eq_true rfl) (hz.o14 rfl) rfl (Nat.le_of_ble_eq_true rfl) (fun vr h2 hq => ?_) (fun E9 h9 hq => hq.elim)
      obtain ⟨rfl, hz⟩ := hq
      show wp _ _ 60 [(3, .int (zI ρ7 1926 0 0 (Int32.toNatClampNeg (zI ρ7 905 0 0 0)))), (1, .long w5), (0, .ref (A 14 0 0))] [.int w25, .long w5, .ref (A 14 0 0)] _ _ _
      refine w_iload_n 0 dX14_totalOne_60 rfl rfl rfl ?_
      obtain ⟨v26, ρ27, e28, hr⟩ := bq_some hr
      refine c_X14_316 (As := [.long w5, .int w25, .int (zI ρ7 1926 0 0 (Int32.toNatClampNeg (zI ρ7 905 0 0 0)))]) (rest := []) (fun l => s_X14_say  hz e28 l) hrm dX14_totalOne_61 rfl rfl (Nat.le_of_ble_eq_true rfl) (Nat.le_of_ble_eq_true rfl) (Nat.le_of_ble_eq_true rfl) (hz.o14 rfl) rfl (Nat.le_of_ble_eq_true rfl) (fun vr h2 hq => ?_) (fun E9 h9 hq => hq.elim)
      obtain ⟨rfl, hz⟩ := hq
      show wp _ _ 64 [(3, .int (zI ρ7 1926 0 0 (Int32.toNatClampNeg (zI ρ7 905 0 0 0)))), (1, .long w5), (0, .ref (A 14 0 0))] [] _ _ _
      exact noek hr
    · have hr := bt q49 hr
      refine w_iconst 0 dX14_totalOne_52 rfl rfl ?_
      refine w_goto 60 dX14_totalOne_53 rfl ?_
      refine w_iload_n 0 dX14_totalOne_60 rfl rfl rfl ?_
      obtain ⟨v30, ρ31, e32, hr⟩ := bq_some hr
      refine c_X14_316 (As := [.long w5, .int 0, .int (zI ρ7 1926 0 0 (Int32.toNatClampNeg (zI ρ7 905 0 0 0)))]) (rest := []) (fun l => s_X14_say  hz e32 l) hrm dX14_totalOne_61 rfl rfl (Nat.le_of_ble_eq_true rfl) (Nat.le_of_ble_eq_true rfl) (Nat.le_of_ble_eq_true rfl) (hz.o14 rfl) rfl (Nat.le_of_ble_eq_true rfl) (fun vr h2 hq => ?_) (fun E9 h9 hq => hq.elim)
      obtain ⟨rfl, hz⟩ := hq
      show wp _ _ 64 [(3, .int (zI ρ7 1926 0 0 (Int32.toNatClampNeg (zI ρ7 905 0 0 0)))), (1, .long w5), (0, .ref (A 14 0 0))] [] _ _ _
      exact noek hr
  · have hr := bt q32 hr
    refine w_aload_n 2 dX14_totalOne_35 rfl rfl rfl ?_
    obtain ⟨w34, ρ35, e36, hr⟩ := bq_some hr
    refine c_X14_219 (As := []) (rest := []) (fun l => s_X14_wrong hz e36 l) hrm dX14_totalOne_36 rfl rfl (Nat.le_of_ble_eq_true rfl) (Nat.le_of_ble_eq_true rfl) (Nat.le_of_ble_eq_true rfl) (hz.o14 rfl) rfl (Nat.le_of_ble_eq_true rfl) (fun vr h2 hq => ?_) (fun E9 h9 hq => hq.elim)
    obtain ⟨q, rfl, hq⟩ := hq
    obtain ⟨rfl, rfl⟩ := rete hr
    show wp _ _ 39 [(3, .int (zI ρ7 1926 0 0 (Int32.toNatClampNeg (zI ρ7 905 0 0 0)))), (1, .long w5), (0, .ref (A 14 0 0))] [.ref q] _ _ _
    refine w_athrow dX14_totalOne_39 (q := q) hq.1 ?_
    exact w_out hf (Nat.le_of_ble_eq_true rfl) (Nat.le_of_ble_eq_true rfl) hq.gh

set_option maxRecDepth 20000 in
set_option maxHeartbeats 4000000 in
theorem u_X14_window_145 {A : Nat → Nat → Nat → Nat} {σ ρ' : Zs} {v : Unit} {x : Cxt} {x1 : Int32} {x2 : Int32}  (hf : m_fin 0 0 (QV A v σ ρ') X0 x) (hrm : m_rm 98 0 0 x)  : ∀ (n : Nat) (ρ : Zs) (h : Hp), Rp A h σ ρ → fX14_window_145 x1 x2  n  ρ = some (.ok v, ρ') → wp x mX14_window 145 [(0, .ref (A 14 0 0)), (1, .int x1), (2, .int x2)] [] h 0 0
  | 0, ρ, h => fun hz hr => by
    rw [fX14_window_145.eq_1] at hr
    exact nono hr
  | n + 1, ρ, h => fun hz hr => by
    rw [fX14_window_145.eq_2] at hr
    refine w_aload_n 0 dX14_window_145 rfl rfl rfl ?_
    refine w_bipush 102 dX14_window_146 rfl rfl ?_
    obtain ⟨v65, ρ66, e67, hr⟩ := bq_some hr
    refine c_X14_223 (As := [.int 102]) (rest := []) (fun l => s_X14_is  hz e67 l) hrm dX14_window_148 rfl rfl (Nat.le_of_ble_eq_true rfl) (Nat.le_of_ble_eq_true rfl) (Nat.le_of_ble_eq_true rfl) (hz.o14 rfl) rfl (Nat.le_of_ble_eq_true rfl) (fun vr h2 hq => ?_) (fun E9 h9 hq => hq.elim)
    obtain ⟨rfl, hz⟩ := hq
    show wp _ _ 151 [(0, .ref (A 14 0 0)), (1, .int x1), (2, .int x2)] [.int v65] _ _ _
    refine w_if_eq 165 dX14_window_151 rfl rfl (fun q151 => ?_) (fun q151 => ?_)
    · have hr := bt q151 hr
      refine w_aload_n 0 dX14_window_165 rfl rfl rfl ?_
      refine w_bipush 101 dX14_window_166 rfl rfl ?_
      obtain ⟨v69, ρ70, e71, hr⟩ := bw_some hr
      rcases v69 with w73e | w73
      · exact noko (bw_er hr)
      have hr := bw_ok hr
      refine c_X14_284 (As := [.int 101]) (rest := []) (fun l => t_X14_take_  hz e71 l) hrm dX14_window_168 rfl rfl (Nat.le_of_ble_eq_true rfl) (Nat.le_of_ble_eq_true rfl) (Nat.le_of_ble_eq_true rfl) (hz.o14 rfl) rfl (Nat.le_of_ble_eq_true rfl) (fun vr h2 hq => ?_) (fun E9 h9 hq => hq.elim)
      obtain ⟨rfl, hz⟩ := hq
      show wp _ _ 171 [(0, .ref (A 14 0 0)), (1, .int x1), (2, .int x2)] [] _ _ _
      refine w_vret hf dX14_window_171 rfl (Nat.le_of_ble_eq_true rfl) (Nat.le_of_ble_eq_true rfl) ?_
      obtain ⟨rfl, rfl⟩ := retw hr
      exact ⟨rfl, hz⟩
    · have hr := bf q151 hr
      refine w_aload_n 0 dX14_window_154 rfl rfl rfl ?_
      obtain ⟨v74, ρ75, e76, hr⟩ := bw_some hr
      rcases v74 with w78e | w78
      · exact noko (bw_er hr)
      have hr := bw_ok hr
      refine c_X14_226 (As := []) (rest := []) (fun l => t_X14_take  hz e76 l) hrm dX14_window_155 rfl rfl (Nat.le_of_ble_eq_true rfl) (Nat.le_of_ble_eq_true rfl) (Nat.le_of_ble_eq_true rfl) (hz.o14 rfl) rfl (Nat.le_of_ble_eq_true rfl) (fun vr h2 hq => ?_) (fun E9 h9 hq => hq.elim)
      obtain ⟨rfl, hz⟩ := hq
      show wp _ _ 158 [(0, .ref (A 14 0 0)), (1, .int x1), (2, .int x2)] [] _ _ _
      refine w_aload_n 0 dX14_window_158 rfl rfl rfl ?_
      obtain ⟨v79, ρ80, e81, hr⟩ := bw_some hr
      rcases v79 with w83e | w83
      · exact noko (bw_er hr)
      have hr := bw_ok hr
      refine c_X14_404 (As := []) (rest := []) (fun l => t_X14_totalOne  hz e81 l) hrm dX14_window_159 rfl rfl (Nat.le_of_ble_eq_true rfl) (Nat.le_of_ble_eq_true rfl) (Nat.le_of_ble_eq_true rfl) (hz.o14 rfl) rfl (Nat.le_of_ble_eq_true rfl) (fun vr h2 hq => ?_) (fun E9 h9 hq => hq.elim)
      obtain ⟨rfl, hz⟩ := hq
      show wp _ _ 162 [(0, .ref (A 14 0 0)), (1, .int x1), (2, .int x2)] [] _ _ _
      refine w_goto 145 dX14_window_162 rfl ?_
      refine w_lv [(0, .ref (A 14 0 0)), (1, .int x1), (2, .int x2)] [0, 1, 2] rfl ?_
      exact u_X14_window_145 hf hrm   n  _ _ hz  hr
set_option maxRecDepth 20000 in
set_option maxHeartbeats 4000000 in
theorem u_X14_window_118 {A : Nat → Nat → Nat → Nat} {σ ρ' : Zs} {v : Unit} {x : Cxt} {x1 : Int32} {x2 : Int32}  (hf : m_fin 0 0 (QV A v σ ρ') X0 x) (hrm : m_rm 98 0 0 x)  : ∀ (y4 : Int64) (ρ : Zs) (h : Hp), Rp A h σ ρ → fX14_window_118 x1 x2  y4 ρ = some (.ok v, ρ') → wp x mX14_window 118 [(0, .ref (A 14 0 0)), (1, .int x1), (2, .int x2), (4, .long y4)] [] h 0 0 := by
  intro y4 ρ h hz hr
  rw [fX14_window_118.eq_1] at hr
  refine w_aload_n 0 dX14_window_118 rfl rfl rfl ?_
  refine w_lload 3 dX14_window_119 rfl rfl ?_
  refine w_iconst 0 dX14_window_121 rfl rfl ?_
  refine w_iconst 0 dX14_window_122 rfl rfl ?_
  obtain ⟨v47, ρ48, e49, hr⟩ := bq_some hr
  refine c_X14_316 (As := [.long y4, .int 0, .int 0]) (rest := []) (fun l => s_X14_say  hz e49 l) hrm dX14_window_123 rfl rfl (Nat.le_of_ble_eq_true rfl) (Nat.le_of_ble_eq_true rfl) (Nat.le_of_ble_eq_true rfl) (hz.o14 rfl) rfl (Nat.le_of_ble_eq_true rfl) (fun vr h2 hq => ?_) (fun E9 h9 hq => hq.elim)
  obtain ⟨rfl, hz⟩ := hq
  show wp _ _ 126 [(0, .ref (A 14 0 0)), (1, .int x1), (2, .int x2), (4, .long y4)] [] _ _ _
  refine w_aload_n 0 dX14_window_126 rfl rfl rfl ?_
  refine w_ldc2 dX14_window_127 rfl k_X14_399 ?_
  refine w_iconst 0 dX14_window_130 rfl rfl ?_
  refine w_iconst 0 dX14_window_131 rfl rfl ?_
  obtain ⟨v51, ρ52, e53, hr⟩ := bq_some hr
  refine c_X14_316 (As := [.long 422608071022, .int 0, .int 0]) (rest := []) (fun l => s_X14_say  hz e53 l) hrm dX14_window_132 rfl rfl (Nat.le_of_ble_eq_true rfl) (Nat.le_of_ble_eq_true rfl) (Nat.le_of_ble_eq_true rfl) (hz.o14 rfl) rfl (Nat.le_of_ble_eq_true rfl) (fun vr h2 hq => ?_) (fun E9 h9 hq => hq.elim)
  obtain ⟨rfl, hz⟩ := hq
  show wp _ _ 135 [(0, .ref (A 14 0 0)), (1, .int x1), (2, .int x2), (4, .long y4)] [] _ _ _
  refine w_aload_n 0 dX14_window_135 rfl rfl rfl ?_
  refine w_bipush 100 dX14_window_136 rfl rfl ?_
  obtain ⟨v55, ρ56, e57, hr⟩ := bw_some hr
  rcases v55 with w59e | w59
  · exact noko (bw_er hr)
  have hr := bw_ok hr
  refine c_X14_284 (As := [.int 100]) (rest := []) (fun l => t_X14_take_  hz e57 l) hrm dX14_window_138 rfl rfl (Nat.le_of_ble_eq_true rfl) (Nat.le_of_ble_eq_true rfl) (Nat.le_of_ble_eq_true rfl) (hz.o14 rfl) rfl (Nat.le_of_ble_eq_true rfl) (fun vr h2 hq => ?_) (fun E9 h9 hq => hq.elim)
  obtain ⟨rfl, hz⟩ := hq
  show wp _ _ 141 [(0, .ref (A 14 0 0)), (1, .int x1), (2, .int x2), (4, .long y4)] [] _ _ _
  refine w_aload_n 0 dX14_window_141 rfl rfl rfl ?_
  obtain ⟨v60, ρ61, e62, hr⟩ := bw_some hr
  rcases v60 with w64e | w64
  · exact noko (bw_er hr)
  have hr := bw_ok hr
  refine c_X14_404 (As := []) (rest := []) (fun l => t_X14_totalOne  hz e62 l) hrm dX14_window_142 rfl rfl (Nat.le_of_ble_eq_true rfl) (Nat.le_of_ble_eq_true rfl) (Nat.le_of_ble_eq_true rfl) (hz.o14 rfl) rfl (Nat.le_of_ble_eq_true rfl) (fun vr h2 hq => ?_) (fun E9 h9 hq => hq.elim)
  obtain ⟨rfl, hz⟩ := hq
  show wp _ _ 145 [(0, .ref (A 14 0 0)), (1, .int x1), (2, .int x2), (4, .long y4)] [] _ _ _
  refine w_lv [(0, .ref (A 14 0 0)), (1, .int x1), (2, .int x2)] [0, 1, 2] rfl ?_
  exact u_X14_window_145 hf hrm   FU  _ _ hz  hr
set_option maxRecDepth 20000 in
set_option maxHeartbeats 4000000 in
theorem u_X14_window_56 {A : Nat → Nat → Nat → Nat} {σ ρ' : Zs} {v : Unit} {x : Cxt} {x1 : Int32} {x2 : Int32}  (hf : m_fin 0 0 (QV A v σ ρ') X0 x) (hrm : m_rm 98 0 0 x)  : ∀ (y3 : Int32) (y4 : Int64) (z0 : Int32) (ρ : Zs) (h : Hp), Rp A h σ ρ → fX14_window_56 x1 x2  y3 y4 z0 ρ = some (.ok v, ρ') → wp x mX14_window 56 [(0, .ref (A 14 0 0)), (1, .int x1), (2, .int x2), (3, .int y3), (4, .long y4)] [.int z0, .ref (A 14 0 0)] h 0 0 := by
  intro y3 y4 z0 ρ h hz hr
  rw [fX14_window_56.eq_1] at hr
  refine w_iconst 5 dX14_window_56 rfl rfl ?_
  refine w_iload_n 3 dX14_window_57 rfl rfl rfl ?_
  obtain ⟨v18, ρ19, e20, hr⟩ := bw_some hr
  rcases v18 with w22e | w22
  · exact noko (bw_er hr)
  have hr := bw_ok hr
  refine c_X14_277 (As := [.int z0, .int 5, .int y3]) (rest := []) (fun l => t_X14_must  hz e20 l) hrm dX14_window_58 rfl rfl (Nat.le_of_ble_eq_true rfl) (Nat.le_of_ble_eq_true rfl) (Nat.le_of_ble_eq_true rfl) (hz.o14 rfl) rfl (Nat.le_of_ble_eq_true rfl) (fun vr h2 hq => ?_) (fun E9 h9 hq => hq.elim)
  obtain ⟨rfl, hz⟩ := hq
  show wp _ _ 61 [(0, .ref (A 14 0 0)), (1, .int x1), (2, .int x2), (3, .int y3), (4, .long y4)] [] _ _ _
  refine w_aload_n 0 dX14_window_61 rfl rfl rfl ?_
  refine w_bipush 15 dX14_window_62 rfl rfl ?_
  obtain ⟨v23, ρ24, e25, hr⟩ := bw_some hr
  rcases v23 with w27e | w27
  · exact noko (bw_er hr)
  have hr := bw_ok hr
  refine c_X14_284 (As := [.int 15]) (rest := []) (fun l => t_X14_take_  hz e25 l) hrm dX14_window_64 rfl rfl (Nat.le_of_ble_eq_true rfl) (Nat.le_of_ble_eq_true rfl) (Nat.le_of_ble_eq_true rfl) (hz.o14 rfl) rfl (Nat.le_of_ble_eq_true rfl) (fun vr h2 hq => ?_) (fun E9 h9 hq => hq.elim)
  obtain ⟨rfl, hz⟩ := hq
  show wp _ _ 67 [(0, .ref (A 14 0 0)), (1, .int x1), (2, .int x2), (3, .int y3), (4, .long y4)] [] _ _ _
  refine w_aload_n 0 dX14_window_67 rfl rfl rfl ?_
  obtain ⟨g29, hr⟩ := gd hr
  have hv28 := hz.ww909 (p := 0) (s := 0) rfl g29
  refine g_X14_232 dX14_window_68 rfl (hz.o14 rfl) (hz.rr909 rfl g29) ?_
  refine g_X14_369 dX14_window_71 rfl (hz.o12 hv28) (hz.r775 hv28) ?_
  refine w_iload_n 1 dX14_window_74 rfl rfl rfl ?_
  refine w_aload_n 0 dX14_window_75 rfl rfl rfl ?_
  refine w_iconst 1 dX14_window_76 rfl rfl ?_
  obtain ⟨v30, ρ31, e32, hr⟩ := bw_some hr
  rcases v30 with w34e | w34
  · exact noko (bw_er hr)
  have hr := bw_ok hr
  refine c_X14_372 (As := [.int 1]) (rest := [.int x1, .ref (A 1799 (zR ρ24 909 0 0 0).1 0)]) (fun l => t_X14_numberIn  hz e32 l) hrm dX14_window_77 rfl rfl (Nat.le_of_ble_eq_true rfl) (Nat.le_of_ble_eq_true rfl) (Nat.le_of_ble_eq_true rfl) (hz.o14 rfl) rfl (Nat.le_of_ble_eq_true rfl) (fun vr h2 hq => ?_) (fun E9 h9 hq => hq.elim)
  obtain ⟨rfl, hz⟩ := hq
  show wp _ _ 80 [(0, .ref (A 14 0 0)), (1, .int x1), (2, .int x2), (3, .int y3), (4, .long y4)] [.int w34, .int x1, .ref (A 1799 (zR ρ24 909 0 0 0).1 0)] _ _ _
  obtain ⟨g35, hr⟩ := gd hr
  refine w_iast dX14_window_80 rfl (hz.k775 hv28) (gin (hz.n775 hv28) g35) ?_
  obtain ⟨ρ36, e37, hr⟩ := lt_e hr
  have hz := (hz.s775 (i := (Int32.toNatClampNeg x1)) (v := w34) hv28).tr e37
  refine w_aload_n 0 dX14_window_81 rfl rfl rfl ?_
  obtain ⟨g39, hr⟩ := gd hr
  have hv38 := hz.ww909 (p := 0) (s := 0) rfl g39
  refine g_X14_232 dX14_window_82 rfl (hz.o14 rfl) (hz.rr909 rfl g39) ?_
  refine g_X14_401 dX14_window_85 rfl (hz.o12 hv38) (hz.r776 hv38) ?_
  refine w_iload_n 1 dX14_window_88 rfl rfl rfl ?_
  refine w_iconst 0 dX14_window_89 rfl rfl ?_
  obtain ⟨g40, hr⟩ := gd hr
  refine w_iast dX14_window_90 rfl (hz.k776 hv38) (gin (hz.n776 hv38) g40) ?_
  obtain ⟨ρ41, e42, hr⟩ := lt_e hr
  have hz := (hz.s776 (i := (Int32.toNatClampNeg x1)) (v := 0) hv38).tr e42
  refine w_aload_n 0 dX14_window_91 rfl rfl rfl ?_
  refine w_bipush 16 dX14_window_92 rfl rfl ?_
  obtain ⟨v43, ρ44, e45, hr⟩ := bq_some hr
  refine c_X14_223 (As := [.int 16]) (rest := []) (fun l => s_X14_is  hz e45 l) hrm dX14_window_94 rfl rfl (Nat.le_of_ble_eq_true rfl) (Nat.le_of_ble_eq_true rfl) (Nat.le_of_ble_eq_true rfl) (hz.o14 rfl) rfl (Nat.le_of_ble_eq_true rfl) (fun vr h2 hq => ?_) (fun E9 h9 hq => hq.elim)
  obtain ⟨rfl, hz⟩ := hq
  show wp _ _ 97 [(0, .ref (A 14 0 0)), (1, .int x1), (2, .int x2), (3, .int y3), (4, .long y4)] [.int v43] _ _ _
  refine w_if_eq 118 dX14_window_97 rfl rfl (fun q97 => ?_) (fun q97 => ?_)
  · have hr := bt q97 hr
    refine w_lv [(0, .ref (A 14 0 0)), (1, .int x1), (2, .int x2), (4, .long y4)] [0, 1, 2, 4] rfl ?_
    exact u_X14_window_118 hf hrm   y4 _ _ hz  hr
  · have hr := bf q97 hr
    refine w_aload_n 0 dX14_window_100 rfl rfl rfl ?_
    obtain ⟨v84, ρ85, e86, hr⟩ := bw_some hr
    rcases v84 with w88e | w88
    · exact noko (bw_er hr)
    have hr := bw_ok hr
    refine c_X14_226 (As := []) (rest := []) (fun l => t_X14_take  hz e86 l) hrm dX14_window_101 rfl rfl (Nat.le_of_ble_eq_true rfl) (Nat.le_of_ble_eq_true rfl) (Nat.le_of_ble_eq_true rfl) (hz.o14 rfl) rfl (Nat.le_of_ble_eq_true rfl) (fun vr h2 hq => ?_) (fun E9 h9 hq => hq.elim)
    obtain ⟨rfl, hz⟩ := hq
    show wp _ _ 104 [(0, .ref (A 14 0 0)), (1, .int x1), (2, .int x2), (3, .int y3), (4, .long y4)] [] _ _ _
    refine w_aload_n 0 dX14_window_104 rfl rfl rfl ?_
    obtain ⟨g90, hr⟩ := gd hr
    have hv89 := hz.ww909 (p := 0) (s := 0) rfl g90
    refine g_X14_232 dX14_window_105 rfl (hz.o14 rfl) (hz.rr909 rfl g90) ?_
    refine g_X14_401 dX14_window_108 rfl (hz.o12 hv89) (hz.r776 hv89) ?_
    refine w_iload_n 1 dX14_window_111 rfl rfl rfl ?_
    refine w_aload_n 0 dX14_window_112 rfl rfl rfl ?_
    refine w_iconst 0 dX14_window_113 rfl rfl ?_
    obtain ⟨v91, ρ92, e93, hr⟩ := bw_some hr
    rcases v91 with w95e | w95
    · exact noko (bw_er hr)
    have hr := bw_ok hr
    refine c_X14_372 (As := [.int 0]) (rest := [.int x1, .ref (A 1800 (zR ρ85 909 0 0 0).1 0)]) (fun l => t_X14_numberIn  hz e93 l) hrm dX14_window_114 rfl rfl (Nat.le_of_ble_eq_true rfl) (Nat.le_of_ble_eq_true rfl) (Nat.le_of_ble_eq_true rfl) (hz.o14 rfl) rfl (Nat.le_of_ble_eq_true rfl) (fun vr h2 hq => ?_) (fun E9 h9 hq => hq.elim)
    obtain ⟨rfl, hz⟩ := hq
    show wp _ _ 117 [(0, .ref (A 14 0 0)), (1, .int x1), (2, .int x2), (3, .int y3), (4, .long y4)] [.int w95, .int x1, .ref (A 1800 (zR ρ85 909 0 0 0).1 0)] _ _ _
    obtain ⟨g96, hr⟩ := gd hr
    refine w_iast dX14_window_117 rfl (hz.k776 hv89) (gin (hz.n776 hv89) g96) ?_
    obtain ⟨ρ97, e98, hr⟩ := lt_e hr
    have hz := (hz.s776 (i := (Int32.toNatClampNeg x1)) (v := w95) hv89).tr e98
    refine w_lv [(0, .ref (A 14 0 0)), (1, .int x1), (2, .int x2), (4, .long y4)] [0, 1, 2, 4] rfl ?_
    exact u_X14_window_118 hf hrm   y4 _ _ hz  hr
set_option maxRecDepth 20000 in
set_option maxHeartbeats 4000000 in
theorem t_X14_window {A : Nat → Nat → Nat → Nat} {h : Hp} {σ ρ ρ' : Zs} {v : Unit} {x1 : Int32} {x2 : Int32}  (hz : Rp A h σ ρ) (hr : fX14_window x1 x2 ρ = some (.ok v, ρ')) : ∀ l : Launch, Sp l mX14_window 98 0 0 [.ref (A 14 0 0), .int x1, .int x2] h (QV A v σ ρ') X0 := by
  intro l
  refine Sp.of rfl rfl (lv := [(0, .ref (A 14 0 0)), (1, .int x1), (2, .int x2)]) (Nat.le_of_ble_eq_true rfl) rfl (fun x hf hrm => ?_)
  rw [fX14_window.eq_1] at hr
  refine w_aload_n 0 dX14_window_0 rfl rfl rfl ?_
  refine w_bipush 13 dX14_window_1 rfl rfl ?_
  obtain ⟨v1, ρ2, e3, hr⟩ := bw_some hr
  rcases v1 with w5e | w5
  · exact noko (bw_er hr)
  have hr := bw_ok hr
  refine c_X14_284 (As := [.int 13]) (rest := []) (fun l => t_X14_take_  hz e3 l) hrm dX14_window_3 rfl rfl (Nat.le_of_ble_eq_true rfl) (Nat.le_of_ble_eq_true rfl) (Nat.le_of_ble_eq_true rfl) (hz.o14 rfl) rfl (Nat.le_of_ble_eq_true rfl) (fun vr h2 hq => ?_) (fun E9 h9 hq => hq.elim)
  obtain ⟨rfl, hz⟩ := hq
  show wp _ _ 6 [(0, .ref (A 14 0 0)), (1, .int x1), (2, .int x2)] [] _ _ _
  refine w_aload_n 0 dX14_window_6 rfl rfl rfl ?_
  refine g_X14_27 dX14_window_7 rfl (hz.o14 rfl) (hz.r903 rfl) ?_
  refine w_aload_n 0 dX14_window_10 rfl rfl rfl ?_
  refine g_X14_204 dX14_window_11 rfl (hz.o14 rfl) (hz.i905 rfl) ?_
  obtain ⟨g6, hr⟩ := gd hr
  refine w_iald dX14_window_14 rfl (hz.k903 rfl) (gin (hz.n903 rfl) g6) (hz.x903 rfl) ?_
  refine w_istore_n [(3, .int (zI ρ2 1927 0 0 (Int32.toNatClampNeg (zI ρ2 905 0 0 0)))), (0, .ref (A 14 0 0)), (1, .int x1), (2, .int x2)] dX14_window_15 rfl rfl (by decide) rfl ?_
  refine w_aload_n 1 dX14_window_16 rfl rfl rfl ?_
  refine g_X14_30 dX14_window_17 rfl (hz.o14 rfl) (hz.r904 rfl) ?_
  refine w_aload_n 1 dX14_window_20 rfl rfl rfl ?_
  refine g_X14_204 dX14_window_21 rfl (hz.o14 rfl) (hz.i905 rfl) ?_
  obtain ⟨g7, hr⟩ := gd hr
  refine w_lald dX14_window_24 rfl (hz.k904 rfl) (gin (hz.n904 rfl) g7) (hz.x904 rfl) ?_
  refine w_lstore [(4, .long (zJ ρ2 1928 0 0 (Int32.toNatClampNeg (zI ρ2 905 0 0 0)))), (3, .int (zI ρ2 1927 0 0 (Int32.toNatClampNeg (zI ρ2 905 0 0 0)))), (0, .ref (A 14 0 0)), (1, .int x1), (2, .int x2)] dX14_window_25 rfl (by decide) rfl ?_
  refine w_aload_n 2 dX14_window_27 rfl rfl rfl ?_
  obtain ⟨g9, hr⟩ := gd hr
  have hv8 := hz.ww909 (p := 0) (s := 0) rfl g9
  refine g_X14_232 dX14_window_28 rfl (hz.o14 rfl) (hz.rr909 rfl g9) ?_
  refine g_X14_387 dX14_window_31 rfl (hz.o12 hv8) (hz.r777 hv8) ?_
  refine w_iload_n 3 dX14_window_34 rfl rfl rfl ?_
  refine w_aload_n 2 dX14_window_35 rfl rfl rfl ?_
  refine w_iload_n 4 dX14_window_36 rfl rfl rfl ?_
  obtain ⟨v10, ρ11, e12, hr⟩ := bw_some hr
  rcases v10 with w14e | w14
  · exact noko (bw_er hr)
  have hr := bw_ok hr
  refine c_X14_390 (As := [.int x2]) (rest := [.int x1, .ref (A 1801 (zR ρ2 909 0 0 0).1 0)]) (fun l => t_X14_columnNamed  hz e12 l) hrm dX14_window_37 rfl rfl (Nat.le_of_ble_eq_true rfl) (Nat.le_of_ble_eq_true rfl) (Nat.le_of_ble_eq_true rfl) (hz.o14 rfl) rfl (Nat.le_of_ble_eq_true rfl) (fun vr h2 hq => ?_) (fun E9 h9 hq => hq.elim)
  obtain ⟨rfl, hz⟩ := hq
  show wp _ _ 40 [(4, .long (zJ ρ2 1928 0 0 (Int32.toNatClampNeg (zI ρ2 905 0 0 0)))), (3, .int (zI ρ2 1927 0 0 (Int32.toNatClampNeg (zI ρ2 905 0 0 0)))), (0, .ref (A 14 0 0)), (1, .int x1), (2, .int x2)] [.int w14, .int x1, .ref (A 1801 (zR ρ2 909 0 0 0).1 0)] _ _ _
  obtain ⟨g15, hr⟩ := gd hr
  refine w_iast dX14_window_40 rfl (hz.k777 hv8) (gin (hz.n777 hv8) g15) ?_
  obtain ⟨ρ16, e17, hr⟩ := lt_e hr
  have hz := (hz.s777 (i := (Int32.toNatClampNeg x1)) (v := w14) hv8).tr e17
  refine w_aload_n 2 dX14_window_41 rfl rfl rfl ?_
  refine w_lload 0 dX14_window_42 rfl rfl ?_
  refine w_ldc2 dX14_window_44 rfl k_X14_399 ?_
  refine w_lcmp dX14_window_47 rfl ?_
  refine w_if_eq 55 dX14_window_48 rfl rfl (fun q48 => ?_) (fun q48 => ?_)
  · have hr := bt q48 hr
    refine w_iconst 0 dX14_window_55 rfl rfl ?_
    refine w_lv [(0, .ref (A 14 0 0)), (1, .int x1), (2, .int x2), (3, .int (zI ρ2 1927 0 0 (Int32.toNatClampNeg (zI ρ2 905 0 0 0)))), (4, .long (zJ ρ2 1928 0 0 (Int32.toNatClampNeg (zI ρ2 905 0 0 0))))] [2, 3, 4, 1, 0] rfl ?_
    exact u_X14_window_56 hf hrm   (zI ρ2 1927 0 0 (Int32.toNatClampNeg (zI ρ2 905 0 0 0))) (zJ ρ2 1928 0 0 (Int32.toNatClampNeg (zI ρ2 905 0 0 0))) 0 _ _ hz  hr
  · have hr := bf q48 hr
    refine w_iconst 1 dX14_window_51 rfl rfl ?_
    refine w_goto 56 dX14_window_52 rfl ?_
    refine w_lv [(0, .ref (A 14 0 0)), (1, .int x1), (2, .int x2), (3, .int (zI ρ2 1927 0 0 (Int32.toNatClampNeg (zI ρ2 905 0 0 0)))), (4, .long (zJ ρ2 1928 0 0 (Int32.toNatClampNeg (zI ρ2 905 0 0 0))))] [2, 3, 4, 1, 0] rfl ?_
    exact u_X14_window_56 hf hrm   (zI ρ2 1927 0 0 (Int32.toNatClampNeg (zI ρ2 905 0 0 0))) (zJ ρ2 1928 0 0 (Int32.toNatClampNeg (zI ρ2 905 0 0 0))) 1 _ _ hz  hr

set_option maxRecDepth 20000 in
set_option maxHeartbeats 4000000 in
theorem x_X14_window_145 {A : Nat → Nat → Nat → Nat} {σ ρ' : Zs} {v : Int32 × Int32} {x : Cxt} {x1 : Int32} {x2 : Int32}  (hf : m_fin 1 8 QF (XW A v σ ρ') x) (hrm : m_rm 98 1 8 x)  : ∀ (n : Nat) (ρ : Zs) (h : Hp), Rp A h σ ρ → fX14_window_145 x1 x2  n  ρ = some (.error v, ρ') → wp x mX14_window 145 [(0, .ref (A 14 0 0)), (1, .int x1), (2, .int x2)] [] h 0 0
  | 0, ρ, h => fun hz hr => by
    rw [fX14_window_145.eq_1] at hr
    exact nono hr
  | n + 1, ρ, h => fun hz hr => by
    rw [fX14_window_145.eq_2] at hr
    refine w_aload_n 0 dX14_window_145 rfl rfl rfl ?_
    refine w_bipush 102 dX14_window_146 rfl rfl ?_
    obtain ⟨v65, ρ66, e67, hr⟩ := bq_some hr
    refine c_X14_223 (As := [.int 102]) (rest := []) (fun l => s_X14_is  hz e67 l) hrm dX14_window_148 rfl rfl (Nat.le_of_ble_eq_true rfl) (Nat.le_of_ble_eq_true rfl) (Nat.le_of_ble_eq_true rfl) (hz.o14 rfl) rfl (Nat.le_of_ble_eq_true rfl) (fun vr h2 hq => ?_) (fun E9 h9 hq => hq.elim)
    obtain ⟨rfl, hz⟩ := hq
    show wp _ _ 151 [(0, .ref (A 14 0 0)), (1, .int x1), (2, .int x2)] [.int v65] _ _ _
    refine w_if_eq 165 dX14_window_151 rfl rfl (fun q151 => ?_) (fun q151 => ?_)
    · have hr := bt q151 hr
      refine w_aload_n 0 dX14_window_165 rfl rfl rfl ?_
      refine w_bipush 101 dX14_window_166 rfl rfl ?_
      obtain ⟨v69, ρ70, e71, hr⟩ := bw_some hr
      rcases v69 with w73e | w73
      · obtain ⟨rfl, rfl⟩ := rete (bw_er hr)
        refine c_X14_284 (As := [.int 101]) (rest := []) (fun l => e_X14_take_  hz e71 l) hrm dX14_window_168 rfl rfl (Nat.le_of_ble_eq_true rfl) (Nat.le_of_ble_eq_true rfl) (Nat.le_of_ble_eq_true rfl) (hz.o14 rfl) rfl (Nat.le_of_ble_eq_true rfl) (fun vr h2 hq => hq.elim) (fun E9 h9 hq => ?_)
        exact w_out hf (Nat.le_of_ble_eq_true rfl) (Nat.le_of_ble_eq_true rfl) hq
      have hr := bw_ok hr
      refine c_X14_284 (As := [.int 101]) (rest := []) (fun l => t_X14_take_  hz e71 l) hrm dX14_window_168 rfl rfl (Nat.le_of_ble_eq_true rfl) (Nat.le_of_ble_eq_true rfl) (Nat.le_of_ble_eq_true rfl) (hz.o14 rfl) rfl (Nat.le_of_ble_eq_true rfl) (fun vr h2 hq => ?_) (fun E9 h9 hq => hq.elim)
      obtain ⟨rfl, hz⟩ := hq
      show wp _ _ 171 [(0, .ref (A 14 0 0)), (1, .int x1), (2, .int x2)] [] _ _ _
      exact noek hr
    · have hr := bf q151 hr
      refine w_aload_n 0 dX14_window_154 rfl rfl rfl ?_
      obtain ⟨v74, ρ75, e76, hr⟩ := bw_some hr
      rcases v74 with w78e | w78
      · obtain ⟨rfl, rfl⟩ := rete (bw_er hr)
        refine c_X14_226 (As := []) (rest := []) (fun l => e_X14_take  hz e76 l) hrm dX14_window_155 rfl rfl (Nat.le_of_ble_eq_true rfl) (Nat.le_of_ble_eq_true rfl) (Nat.le_of_ble_eq_true rfl) (hz.o14 rfl) rfl (Nat.le_of_ble_eq_true rfl) (fun vr h2 hq => hq.elim) (fun E9 h9 hq => ?_)
        exact w_out hf (Nat.le_of_ble_eq_true rfl) (Nat.le_of_ble_eq_true rfl) hq
      have hr := bw_ok hr
      refine c_X14_226 (As := []) (rest := []) (fun l => t_X14_take  hz e76 l) hrm dX14_window_155 rfl rfl (Nat.le_of_ble_eq_true rfl) (Nat.le_of_ble_eq_true rfl) (Nat.le_of_ble_eq_true rfl) (hz.o14 rfl) rfl (Nat.le_of_ble_eq_true rfl) (fun vr h2 hq => ?_) (fun E9 h9 hq => hq.elim)
      obtain ⟨rfl, hz⟩ := hq
      show wp _ _ 158 [(0, .ref (A 14 0 0)), (1, .int x1), (2, .int x2)] [] _ _ _
      refine w_aload_n 0 dX14_window_158 rfl rfl rfl ?_
      obtain ⟨v79, ρ80, e81, hr⟩ := bw_some hr
      rcases v79 with w83e | w83
      · obtain ⟨rfl, rfl⟩ := rete (bw_er hr)
        refine c_X14_404 (As := []) (rest := []) (fun l => e_X14_totalOne  hz e81 l) hrm dX14_window_159 rfl rfl (Nat.le_of_ble_eq_true rfl) (Nat.le_of_ble_eq_true rfl) (Nat.le_of_ble_eq_true rfl) (hz.o14 rfl) rfl (Nat.le_of_ble_eq_true rfl) (fun vr h2 hq => hq.elim) (fun E9 h9 hq => ?_)
        exact w_out hf (Nat.le_of_ble_eq_true rfl) (Nat.le_of_ble_eq_true rfl) hq
      have hr := bw_ok hr
      refine c_X14_404 (As := []) (rest := []) (fun l => t_X14_totalOne  hz e81 l) hrm dX14_window_159 rfl rfl (Nat.le_of_ble_eq_true rfl) (Nat.le_of_ble_eq_true rfl) (Nat.le_of_ble_eq_true rfl) (hz.o14 rfl) rfl (Nat.le_of_ble_eq_true rfl) (fun vr h2 hq => ?_) (fun E9 h9 hq => hq.elim)
      obtain ⟨rfl, hz⟩ := hq
      show wp _ _ 162 [(0, .ref (A 14 0 0)), (1, .int x1), (2, .int x2)] [] _ _ _
      refine w_goto 145 dX14_window_162 rfl ?_
      refine w_lv [(0, .ref (A 14 0 0)), (1, .int x1), (2, .int x2)] [0, 1, 2] rfl ?_
      exact x_X14_window_145 hf hrm   n  _ _ hz  hr
set_option maxRecDepth 20000 in
set_option maxHeartbeats 4000000 in
theorem x_X14_window_118 {A : Nat → Nat → Nat → Nat} {σ ρ' : Zs} {v : Int32 × Int32} {x : Cxt} {x1 : Int32} {x2 : Int32}  (hf : m_fin 1 8 QF (XW A v σ ρ') x) (hrm : m_rm 98 1 8 x)  : ∀ (y4 : Int64) (ρ : Zs) (h : Hp), Rp A h σ ρ → fX14_window_118 x1 x2  y4 ρ = some (.error v, ρ') → wp x mX14_window 118 [(0, .ref (A 14 0 0)), (1, .int x1), (2, .int x2), (4, .long y4)] [] h 0 0 := by
  intro y4 ρ h hz hr
  rw [fX14_window_118.eq_1] at hr
  refine w_aload_n 0 dX14_window_118 rfl rfl rfl ?_
  refine w_lload 3 dX14_window_119 rfl rfl ?_
  refine w_iconst 0 dX14_window_121 rfl rfl ?_
  refine w_iconst 0 dX14_window_122 rfl rfl ?_
  obtain ⟨v47, ρ48, e49, hr⟩ := bq_some hr
  refine c_X14_316 (As := [.long y4, .int 0, .int 0]) (rest := []) (fun l => s_X14_say  hz e49 l) hrm dX14_window_123 rfl rfl (Nat.le_of_ble_eq_true rfl) (Nat.le_of_ble_eq_true rfl) (Nat.le_of_ble_eq_true rfl) (hz.o14 rfl) rfl (Nat.le_of_ble_eq_true rfl) (fun vr h2 hq => ?_) (fun E9 h9 hq => hq.elim)
  obtain ⟨rfl, hz⟩ := hq
  show wp _ _ 126 [(0, .ref (A 14 0 0)), (1, .int x1), (2, .int x2), (4, .long y4)] [] _ _ _
  refine w_aload_n 0 dX14_window_126 rfl rfl rfl ?_
  refine w_ldc2 dX14_window_127 rfl k_X14_399 ?_
  refine w_iconst 0 dX14_window_130 rfl rfl ?_
  refine w_iconst 0 dX14_window_131 rfl rfl ?_
  obtain ⟨v51, ρ52, e53, hr⟩ := bq_some hr
  refine c_X14_316 (As := [.long 422608071022, .int 0, .int 0]) (rest := []) (fun l => s_X14_say  hz e53 l) hrm dX14_window_132 rfl rfl (Nat.le_of_ble_eq_true rfl) (Nat.le_of_ble_eq_true rfl) (Nat.le_of_ble_eq_true rfl) (hz.o14 rfl) rfl (Nat.le_of_ble_eq_true rfl) (fun vr h2 hq => ?_) (fun E9 h9 hq => hq.elim)
  obtain ⟨rfl, hz⟩ := hq
  show wp _ _ 135 [(0, .ref (A 14 0 0)), (1, .int x1), (2, .int x2), (4, .long y4)] [] _ _ _
  refine w_aload_n 0 dX14_window_135 rfl rfl rfl ?_
  refine w_bipush 100 dX14_window_136 rfl rfl ?_
  obtain ⟨v55, ρ56, e57, hr⟩ := bw_some hr
  rcases v55 with w59e | w59
  · obtain ⟨rfl, rfl⟩ := rete (bw_er hr)
    refine c_X14_284 (As := [.int 100]) (rest := []) (fun l => e_X14_take_  hz e57 l) hrm dX14_window_138 rfl rfl (Nat.le_of_ble_eq_true rfl) (Nat.le_of_ble_eq_true rfl) (Nat.le_of_ble_eq_true rfl) (hz.o14 rfl) rfl (Nat.le_of_ble_eq_true rfl) (fun vr h2 hq => hq.elim) (fun E9 h9 hq => ?_)
    exact w_out hf (Nat.le_of_ble_eq_true rfl) (Nat.le_of_ble_eq_true rfl) hq
  have hr := bw_ok hr
  refine c_X14_284 (As := [.int 100]) (rest := []) (fun l => t_X14_take_  hz e57 l) hrm dX14_window_138 rfl rfl (Nat.le_of_ble_eq_true rfl) (Nat.le_of_ble_eq_true rfl) (Nat.le_of_ble_eq_true rfl) (hz.o14 rfl) rfl (Nat.le_of_ble_eq_true rfl) (fun vr h2 hq => ?_) (fun E9 h9 hq => hq.elim)
  obtain ⟨rfl, hz⟩ := hq
  show wp _ _ 141 [(0, .ref (A 14 0 0)), (1, .int x1), (2, .int x2), (4, .long y4)] [] _ _ _
  refine w_aload_n 0 dX14_window_141 rfl rfl rfl ?_
  obtain ⟨v60, ρ61, e62, hr⟩ := bw_some hr
  rcases v60 with w64e | w64
  · obtain ⟨rfl, rfl⟩ := rete (bw_er hr)
    refine c_X14_404 (As := []) (rest := []) (fun l => e_X14_totalOne  hz e62 l) hrm dX14_window_142 rfl rfl (Nat.le_of_ble_eq_true rfl) (Nat.le_of_ble_eq_true rfl) (Nat.le_of_ble_eq_true rfl) (hz.o14 rfl) rfl (Nat.le_of_ble_eq_true rfl) (fun vr h2 hq => hq.elim) (fun E9 h9 hq => ?_)
    exact w_out hf (Nat.le_of_ble_eq_true rfl) (Nat.le_of_ble_eq_true rfl) hq
  have hr := bw_ok hr
  refine c_X14_404 (As := []) (rest := []) (fun l => t_X14_totalOne  hz e62 l) hrm dX14_window_142 rfl rfl (Nat.le_of_ble_eq_true rfl) (Nat.le_of_ble_eq_true rfl) (Nat.le_of_ble_eq_true rfl) (hz.o14 rfl) rfl (Nat.le_of_ble_eq_true rfl) (fun vr h2 hq => ?_) (fun E9 h9 hq => hq.elim)
  obtain ⟨rfl, hz⟩ := hq
  show wp _ _ 145 [(0, .ref (A 14 0 0)), (1, .int x1), (2, .int x2), (4, .long y4)] [] _ _ _
  refine w_lv [(0, .ref (A 14 0 0)), (1, .int x1), (2, .int x2)] [0, 1, 2] rfl ?_
  exact x_X14_window_145 hf hrm   FU  _ _ hz  hr
set_option maxRecDepth 20000 in
set_option maxHeartbeats 4000000 in
theorem x_X14_window_56 {A : Nat → Nat → Nat → Nat} {σ ρ' : Zs} {v : Int32 × Int32} {x : Cxt} {x1 : Int32} {x2 : Int32}  (hf : m_fin 1 8 QF (XW A v σ ρ') x) (hrm : m_rm 98 1 8 x)  : ∀ (y3 : Int32) (y4 : Int64) (z0 : Int32) (ρ : Zs) (h : Hp), Rp A h σ ρ → fX14_window_56 x1 x2  y3 y4 z0 ρ = some (.error v, ρ') → wp x mX14_window 56 [(0, .ref (A 14 0 0)), (1, .int x1), (2, .int x2), (3, .int y3), (4, .long y4)] [.int z0, .ref (A 14 0 0)] h 0 0 := by
  intro y3 y4 z0 ρ h hz hr
  rw [fX14_window_56.eq_1] at hr
  refine w_iconst 5 dX14_window_56 rfl rfl ?_
  refine w_iload_n 3 dX14_window_57 rfl rfl rfl ?_
  obtain ⟨v18, ρ19, e20, hr⟩ := bw_some hr
  rcases v18 with w22e | w22
  · obtain ⟨rfl, rfl⟩ := rete (bw_er hr)
    refine c_X14_277 (As := [.int z0, .int 5, .int y3]) (rest := []) (fun l => e_X14_must  hz e20 l) hrm dX14_window_58 rfl rfl (Nat.le_of_ble_eq_true rfl) (Nat.le_of_ble_eq_true rfl) (Nat.le_of_ble_eq_true rfl) (hz.o14 rfl) rfl (Nat.le_of_ble_eq_true rfl) (fun vr h2 hq => hq.elim) (fun E9 h9 hq => ?_)
    exact w_out hf (Nat.le_of_ble_eq_true rfl) (Nat.le_of_ble_eq_true rfl) hq
  have hr := bw_ok hr
  refine c_X14_277 (As := [.int z0, .int 5, .int y3]) (rest := []) (fun l => t_X14_must  hz e20 l) hrm dX14_window_58 rfl rfl (Nat.le_of_ble_eq_true rfl) (Nat.le_of_ble_eq_true rfl) (Nat.le_of_ble_eq_true rfl) (hz.o14 rfl) rfl (Nat.le_of_ble_eq_true rfl) (fun vr h2 hq => ?_) (fun E9 h9 hq => hq.elim)
  obtain ⟨rfl, hz⟩ := hq
  show wp _ _ 61 [(0, .ref (A 14 0 0)), (1, .int x1), (2, .int x2), (3, .int y3), (4, .long y4)] [] _ _ _
  refine w_aload_n 0 dX14_window_61 rfl rfl rfl ?_
  refine w_bipush 15 dX14_window_62 rfl rfl ?_
  obtain ⟨v23, ρ24, e25, hr⟩ := bw_some hr
  rcases v23 with w27e | w27
  · obtain ⟨rfl, rfl⟩ := rete (bw_er hr)
    refine c_X14_284 (As := [.int 15]) (rest := []) (fun l => e_X14_take_  hz e25 l) hrm dX14_window_64 rfl rfl (Nat.le_of_ble_eq_true rfl) (Nat.le_of_ble_eq_true rfl) (Nat.le_of_ble_eq_true rfl) (hz.o14 rfl) rfl (Nat.le_of_ble_eq_true rfl) (fun vr h2 hq => hq.elim) (fun E9 h9 hq => ?_)
    exact w_out hf (Nat.le_of_ble_eq_true rfl) (Nat.le_of_ble_eq_true rfl) hq
  have hr := bw_ok hr
  refine c_X14_284 (As := [.int 15]) (rest := []) (fun l => t_X14_take_  hz e25 l) hrm dX14_window_64 rfl rfl (Nat.le_of_ble_eq_true rfl) (Nat.le_of_ble_eq_true rfl) (Nat.le_of_ble_eq_true rfl) (hz.o14 rfl) rfl (Nat.le_of_ble_eq_true rfl) (fun vr h2 hq => ?_) (fun E9 h9 hq => hq.elim)
  obtain ⟨rfl, hz⟩ := hq
  show wp _ _ 67 [(0, .ref (A 14 0 0)), (1, .int x1), (2, .int x2), (3, .int y3), (4, .long y4)] [] _ _ _
  refine w_aload_n 0 dX14_window_67 rfl rfl rfl ?_
  obtain ⟨g29, hr⟩ := gd hr
  have hv28 := hz.ww909 (p := 0) (s := 0) rfl g29
  refine g_X14_232 dX14_window_68 rfl (hz.o14 rfl) (hz.rr909 rfl g29) ?_
  refine g_X14_369 dX14_window_71 rfl (hz.o12 hv28) (hz.r775 hv28) ?_
  refine w_iload_n 1 dX14_window_74 rfl rfl rfl ?_
  refine w_aload_n 0 dX14_window_75 rfl rfl rfl ?_
  refine w_iconst 1 dX14_window_76 rfl rfl ?_
  obtain ⟨v30, ρ31, e32, hr⟩ := bw_some hr
  rcases v30 with w34e | w34
  · obtain ⟨rfl, rfl⟩ := rete (bw_er hr)
    refine c_X14_372 (As := [.int 1]) (rest := [.int x1, .ref (A 1799 (zR ρ24 909 0 0 0).1 0)]) (fun l => e_X14_numberIn  hz e32 l) hrm dX14_window_77 rfl rfl (Nat.le_of_ble_eq_true rfl) (Nat.le_of_ble_eq_true rfl) (Nat.le_of_ble_eq_true rfl) (hz.o14 rfl) rfl (Nat.le_of_ble_eq_true rfl) (fun vr h2 hq => hq.elim) (fun E9 h9 hq => ?_)
    exact w_out hf (Nat.le_of_ble_eq_true rfl) (Nat.le_of_ble_eq_true rfl) hq
  have hr := bw_ok hr
  refine c_X14_372 (As := [.int 1]) (rest := [.int x1, .ref (A 1799 (zR ρ24 909 0 0 0).1 0)]) (fun l => t_X14_numberIn  hz e32 l) hrm dX14_window_77 rfl rfl (Nat.le_of_ble_eq_true rfl) (Nat.le_of_ble_eq_true rfl) (Nat.le_of_ble_eq_true rfl) (hz.o14 rfl) rfl (Nat.le_of_ble_eq_true rfl) (fun vr h2 hq => ?_) (fun E9 h9 hq => hq.elim)
  obtain ⟨rfl, hz⟩ := hq
  show wp _ _ 80 [(0, .ref (A 14 0 0)), (1, .int x1), (2, .int x2), (3, .int y3), (4, .long y4)] [.int w34, .int x1, .ref (A 1799 (zR ρ24 909 0 0 0).1 0)] _ _ _
  obtain ⟨g35, hr⟩ := gd hr
  refine w_iast dX14_window_80 rfl (hz.k775 hv28) (gin (hz.n775 hv28) g35) ?_
  obtain ⟨ρ36, e37, hr⟩ := lt_e hr
  have hz := (hz.s775 (i := (Int32.toNatClampNeg x1)) (v := w34) hv28).tr e37
  refine w_aload_n 0 dX14_window_81 rfl rfl rfl ?_
  obtain ⟨g39, hr⟩ := gd hr
  have hv38 := hz.ww909 (p := 0) (s := 0) rfl g39
  refine g_X14_232 dX14_window_82 rfl (hz.o14 rfl) (hz.rr909 rfl g39) ?_
  refine g_X14_401 dX14_window_85 rfl (hz.o12 hv38) (hz.r776 hv38) ?_
  refine w_iload_n 1 dX14_window_88 rfl rfl rfl ?_
  refine w_iconst 0 dX14_window_89 rfl rfl ?_
  obtain ⟨g40, hr⟩ := gd hr
  refine w_iast dX14_window_90 rfl (hz.k776 hv38) (gin (hz.n776 hv38) g40) ?_
  obtain ⟨ρ41, e42, hr⟩ := lt_e hr
  have hz := (hz.s776 (i := (Int32.toNatClampNeg x1)) (v := 0) hv38).tr e42
  refine w_aload_n 0 dX14_window_91 rfl rfl rfl ?_
  refine w_bipush 16 dX14_window_92 rfl rfl ?_
  obtain ⟨v43, ρ44, e45, hr⟩ := bq_some hr
  refine c_X14_223 (As := [.int 16]) (rest := []) (fun l => s_X14_is  hz e45 l) hrm dX14_window_94 rfl rfl (Nat.le_of_ble_eq_true rfl) (Nat.le_of_ble_eq_true rfl) (Nat.le_of_ble_eq_true rfl) (hz.o14 rfl) rfl (Nat.le_of_ble_eq_true rfl) (fun vr h2 hq => ?_) (fun E9 h9 hq => hq.elim)
  obtain ⟨rfl, hz⟩ := hq
  show wp _ _ 97 [(0, .ref (A 14 0 0)), (1, .int x1), (2, .int x2), (3, .int y3), (4, .long y4)] [.int v43] _ _ _
  refine w_if_eq 118 dX14_window_97 rfl rfl (fun q97 => ?_) (fun q97 => ?_)
  · have hr := bt q97 hr
    refine w_lv [(0, .ref (A 14 0 0)), (1, .int x1), (2, .int x2), (4, .long y4)] [0, 1, 2, 4] rfl ?_
    exact x_X14_window_118 hf hrm   y4 _ _ hz  hr
  · have hr := bf q97 hr
    refine w_aload_n 0 dX14_window_100 rfl rfl rfl ?_
    obtain ⟨v84, ρ85, e86, hr⟩ := bw_some hr
    rcases v84 with w88e | w88
    · obtain ⟨rfl, rfl⟩ := rete (bw_er hr)
      refine c_X14_226 (As := []) (rest := []) (fun l => e_X14_take  hz e86 l) hrm dX14_window_101 rfl rfl (Nat.le_of_ble_eq_true rfl) (Nat.le_of_ble_eq_true rfl) (Nat.le_of_ble_eq_true rfl) (hz.o14 rfl) rfl (Nat.le_of_ble_eq_true rfl) (fun vr h2 hq => hq.elim) (fun E9 h9 hq => ?_)
      exact w_out hf (Nat.le_of_ble_eq_true rfl) (Nat.le_of_ble_eq_true rfl) hq
    have hr := bw_ok hr
    refine c_X14_226 (As := []) (rest := []) (fun l => t_X14_take  hz e86 l) hrm dX14_window_101 rfl rfl (Nat.le_of_ble_eq_true rfl) (Nat.le_of_ble_eq_true rfl) (Nat.le_of_ble_eq_true rfl) (hz.o14 rfl) rfl (Nat.le_of_ble_eq_true rfl) (fun vr h2 hq => ?_) (fun E9 h9 hq => hq.elim)
    obtain ⟨rfl, hz⟩ := hq
    show wp _ _ 104 [(0, .ref (A 14 0 0)), (1, .int x1), (2, .int x2), (3, .int y3), (4, .long y4)] [] _ _ _
    refine w_aload_n 0 dX14_window_104 rfl rfl rfl ?_
    obtain ⟨g90, hr⟩ := gd hr
    have hv89 := hz.ww909 (p := 0) (s := 0) rfl g90
    refine g_X14_232 dX14_window_105 rfl (hz.o14 rfl) (hz.rr909 rfl g90) ?_
    refine g_X14_401 dX14_window_108 rfl (hz.o12 hv89) (hz.r776 hv89) ?_
    refine w_iload_n 1 dX14_window_111 rfl rfl rfl ?_
    refine w_aload_n 0 dX14_window_112 rfl rfl rfl ?_
    refine w_iconst 0 dX14_window_113 rfl rfl ?_
    obtain ⟨v91, ρ92, e93, hr⟩ := bw_some hr
    rcases v91 with w95e | w95
    · obtain ⟨rfl, rfl⟩ := rete (bw_er hr)
      refine c_X14_372 (As := [.int 0]) (rest := [.int x1, .ref (A 1800 (zR ρ85 909 0 0 0).1 0)]) (fun l => e_X14_numberIn  hz e93 l) hrm dX14_window_114 rfl rfl (Nat.le_of_ble_eq_true rfl) (Nat.le_of_ble_eq_true rfl) (Nat.le_of_ble_eq_true rfl) (hz.o14 rfl) rfl (Nat.le_of_ble_eq_true rfl) (fun vr h2 hq => hq.elim) (fun E9 h9 hq => ?_)
      exact w_out hf (Nat.le_of_ble_eq_true rfl) (Nat.le_of_ble_eq_true rfl) hq
    have hr := bw_ok hr
    refine c_X14_372 (As := [.int 0]) (rest := [.int x1, .ref (A 1800 (zR ρ85 909 0 0 0).1 0)]) (fun l => t_X14_numberIn  hz e93 l) hrm dX14_window_114 rfl rfl (Nat.le_of_ble_eq_true rfl) (Nat.le_of_ble_eq_true rfl) (Nat.le_of_ble_eq_true rfl) (hz.o14 rfl) rfl (Nat.le_of_ble_eq_true rfl) (fun vr h2 hq => ?_) (fun E9 h9 hq => hq.elim)
    obtain ⟨rfl, hz⟩ := hq
    show wp _ _ 117 [(0, .ref (A 14 0 0)), (1, .int x1), (2, .int x2), (3, .int y3), (4, .long y4)] [.int w95, .int x1, .ref (A 1800 (zR ρ85 909 0 0 0).1 0)] _ _ _
    obtain ⟨g96, hr⟩ := gd hr
    refine w_iast dX14_window_117 rfl (hz.k776 hv89) (gin (hz.n776 hv89) g96) ?_
    obtain ⟨ρ97, e98, hr⟩ := lt_e hr
    have hz := (hz.s776 (i := (Int32.toNatClampNeg x1)) (v := w95) hv89).tr e98
    refine w_lv [(0, .ref (A 14 0 0)), (1, .int x1), (2, .int x2), (4, .long y4)] [0, 1, 2, 4] rfl ?_
    exact x_X14_window_118 hf hrm   y4 _ _ hz  hr
set_option maxRecDepth 20000 in
set_option maxHeartbeats 4000000 in
theorem e_X14_window {A : Nat → Nat → Nat → Nat} {h : Hp} {σ ρ ρ' : Zs} {v : Int32 × Int32} {x1 : Int32} {x2 : Int32}  (hz : Rp A h σ ρ) (hr : fX14_window x1 x2 ρ = some (.error v, ρ')) : ∀ l : Launch, Sp l mX14_window 98 1 8 [.ref (A 14 0 0), .int x1, .int x2] h QF (XW A v σ ρ') := by
  intro l
  refine Sp.of rfl rfl (lv := [(0, .ref (A 14 0 0)), (1, .int x1), (2, .int x2)]) (Nat.le_of_ble_eq_true rfl) rfl (fun x hf hrm => ?_)
  rw [fX14_window.eq_1] at hr
  refine w_aload_n 0 dX14_window_0 rfl rfl rfl ?_
  refine w_bipush 13 dX14_window_1 rfl rfl ?_
  obtain ⟨v1, ρ2, e3, hr⟩ := bw_some hr
  rcases v1 with w5e | w5
  · obtain ⟨rfl, rfl⟩ := rete (bw_er hr)
    refine c_X14_284 (As := [.int 13]) (rest := []) (fun l => e_X14_take_  hz e3 l) hrm dX14_window_3 rfl rfl (Nat.le_of_ble_eq_true rfl) (Nat.le_of_ble_eq_true rfl) (Nat.le_of_ble_eq_true rfl) (hz.o14 rfl) rfl (Nat.le_of_ble_eq_true rfl) (fun vr h2 hq => hq.elim) (fun E9 h9 hq => ?_)
    exact w_out hf (Nat.le_of_ble_eq_true rfl) (Nat.le_of_ble_eq_true rfl) hq
  have hr := bw_ok hr
  refine c_X14_284 (As := [.int 13]) (rest := []) (fun l => t_X14_take_  hz e3 l) hrm dX14_window_3 rfl rfl (Nat.le_of_ble_eq_true rfl) (Nat.le_of_ble_eq_true rfl) (Nat.le_of_ble_eq_true rfl) (hz.o14 rfl) rfl (Nat.le_of_ble_eq_true rfl) (fun vr h2 hq => ?_) (fun E9 h9 hq => hq.elim)
  obtain ⟨rfl, hz⟩ := hq
  show wp _ _ 6 [(0, .ref (A 14 0 0)), (1, .int x1), (2, .int x2)] [] _ _ _
  refine w_aload_n 0 dX14_window_6 rfl rfl rfl ?_
  refine g_X14_27 dX14_window_7 rfl (hz.o14 rfl) (hz.r903 rfl) ?_
  refine w_aload_n 0 dX14_window_10 rfl rfl rfl ?_
  refine g_X14_204 dX14_window_11 rfl (hz.o14 rfl) (hz.i905 rfl) ?_
  obtain ⟨g6, hr⟩ := gd hr
  refine w_iald dX14_window_14 rfl (hz.k903 rfl) (gin (hz.n903 rfl) g6) (hz.x903 rfl) ?_
  refine w_istore_n [(3, .int (zI ρ2 1927 0 0 (Int32.toNatClampNeg (zI ρ2 905 0 0 0)))), (0, .ref (A 14 0 0)), (1, .int x1), (2, .int x2)] dX14_window_15 rfl rfl (by decide) rfl ?_
  refine w_aload_n 1 dX14_window_16 rfl rfl rfl ?_
  refine g_X14_30 dX14_window_17 rfl (hz.o14 rfl) (hz.r904 rfl) ?_
  refine w_aload_n 1 dX14_window_20 rfl rfl rfl ?_
  refine g_X14_204 dX14_window_21 rfl (hz.o14 rfl) (hz.i905 rfl) ?_
  obtain ⟨g7, hr⟩ := gd hr
  refine w_lald dX14_window_24 rfl (hz.k904 rfl) (gin (hz.n904 rfl) g7) (hz.x904 rfl) ?_
  refine w_lstore [(4, .long (zJ ρ2 1928 0 0 (Int32.toNatClampNeg (zI ρ2 905 0 0 0)))), (3, .int (zI ρ2 1927 0 0 (Int32.toNatClampNeg (zI ρ2 905 0 0 0)))), (0, .ref (A 14 0 0)), (1, .int x1), (2, .int x2)] dX14_window_25 rfl (by decide) rfl ?_
  refine w_aload_n 2 dX14_window_27 rfl rfl rfl ?_
  obtain ⟨g9, hr⟩ := gd hr
  have hv8 := hz.ww909 (p := 0) (s := 0) rfl g9
  refine g_X14_232 dX14_window_28 rfl (hz.o14 rfl) (hz.rr909 rfl g9) ?_
  refine g_X14_387 dX14_window_31 rfl (hz.o12 hv8) (hz.r777 hv8) ?_
  refine w_iload_n 3 dX14_window_34 rfl rfl rfl ?_
  refine w_aload_n 2 dX14_window_35 rfl rfl rfl ?_
  refine w_iload_n 4 dX14_window_36 rfl rfl rfl ?_
  obtain ⟨v10, ρ11, e12, hr⟩ := bw_some hr
  rcases v10 with w14e | w14
  · obtain ⟨rfl, rfl⟩ := rete (bw_er hr)
    refine c_X14_390 (As := [.int x2]) (rest := [.int x1, .ref (A 1801 (zR ρ2 909 0 0 0).1 0)]) (fun l => e_X14_columnNamed  hz e12 l) hrm dX14_window_37 rfl rfl (Nat.le_of_ble_eq_true rfl) (Nat.le_of_ble_eq_true rfl) (Nat.le_of_ble_eq_true rfl) (hz.o14 rfl) rfl (Nat.le_of_ble_eq_true rfl) (fun vr h2 hq => hq.elim) (fun E9 h9 hq => ?_)
    exact w_out hf (Nat.le_of_ble_eq_true rfl) (Nat.le_of_ble_eq_true rfl) hq
  have hr := bw_ok hr
  refine c_X14_390 (As := [.int x2]) (rest := [.int x1, .ref (A 1801 (zR ρ2 909 0 0 0).1 0)]) (fun l => t_X14_columnNamed  hz e12 l) hrm dX14_window_37 rfl rfl (Nat.le_of_ble_eq_true rfl) (Nat.le_of_ble_eq_true rfl) (Nat.le_of_ble_eq_true rfl) (hz.o14 rfl) rfl (Nat.le_of_ble_eq_true rfl) (fun vr h2 hq => ?_) (fun E9 h9 hq => hq.elim)
  obtain ⟨rfl, hz⟩ := hq
  show wp _ _ 40 [(4, .long (zJ ρ2 1928 0 0 (Int32.toNatClampNeg (zI ρ2 905 0 0 0)))), (3, .int (zI ρ2 1927 0 0 (Int32.toNatClampNeg (zI ρ2 905 0 0 0)))), (0, .ref (A 14 0 0)), (1, .int x1), (2, .int x2)] [.int w14, .int x1, .ref (A 1801 (zR ρ2 909 0 0 0).1 0)] _ _ _
  obtain ⟨g15, hr⟩ := gd hr
  refine w_iast dX14_window_40 rfl (hz.k777 hv8) (gin (hz.n777 hv8) g15) ?_
  obtain ⟨ρ16, e17, hr⟩ := lt_e hr
  have hz := (hz.s777 (i := (Int32.toNatClampNeg x1)) (v := w14) hv8).tr e17
  refine w_aload_n 2 dX14_window_41 rfl rfl rfl ?_
  refine w_lload 0 dX14_window_42 rfl rfl ?_
  refine w_ldc2 dX14_window_44 rfl k_X14_399 ?_
  refine w_lcmp dX14_window_47 rfl ?_
  refine w_if_eq 55 dX14_window_48 rfl rfl (fun q48 => ?_) (fun q48 => ?_)
  · have hr := bt q48 hr
    refine w_iconst 0 dX14_window_55 rfl rfl ?_
    refine w_lv [(0, .ref (A 14 0 0)), (1, .int x1), (2, .int x2), (3, .int (zI ρ2 1927 0 0 (Int32.toNatClampNeg (zI ρ2 905 0 0 0)))), (4, .long (zJ ρ2 1928 0 0 (Int32.toNatClampNeg (zI ρ2 905 0 0 0))))] [2, 3, 4, 1, 0] rfl ?_
    exact x_X14_window_56 hf hrm   (zI ρ2 1927 0 0 (Int32.toNatClampNeg (zI ρ2 905 0 0 0))) (zJ ρ2 1928 0 0 (Int32.toNatClampNeg (zI ρ2 905 0 0 0))) 0 _ _ hz  hr
  · have hr := bf q48 hr
    refine w_iconst 1 dX14_window_51 rfl rfl ?_
    refine w_goto 56 dX14_window_52 rfl ?_
    refine w_lv [(0, .ref (A 14 0 0)), (1, .int x1), (2, .int x2), (3, .int (zI ρ2 1927 0 0 (Int32.toNatClampNeg (zI ρ2 905 0 0 0)))), (4, .long (zJ ρ2 1928 0 0 (Int32.toNatClampNeg (zI ρ2 905 0 0 0))))] [2, 3, 4, 1, 0] rfl ?_
    exact x_X14_window_56 hf hrm   (zI ρ2 1927 0 0 (Int32.toNatClampNeg (zI ρ2 905 0 0 0))) (zJ ρ2 1928 0 0 (Int32.toNatClampNeg (zI ρ2 905 0 0 0))) 1 _ _ hz  hr

set_option maxRecDepth 20000 in
set_option maxHeartbeats 4000000 in
theorem u_X14_source_16 {A : Nat → Nat → Nat → Nat} {σ ρ' : Zs} {v : Unit} {x : Cxt} {x1 : Int32}  (hf : m_fin 0 0 (QV A v σ ρ') X0 x) (hrm : m_rm 16 0 0 x)  : ∀ (n : Nat) (ρ : Zs) (h : Hp), Rp A h σ ρ → fX14_source_16 x1  n  ρ = some (.ok v, ρ') → wp x mX14_source 16 [(0, .ref (A 14 0 0)), (1, .int x1)] [] h 0 0
  | 0, ρ, h => fun hz hr => by
    rw [fX14_source_16.eq_1] at hr
    exact nono hr
  | n + 1, ρ, h => fun hz hr => by
    rw [fX14_source_16.eq_2] at hr
    refine w_aload_n 0 dX14_source_16 rfl rfl rfl ?_
    refine w_bipush 102 dX14_source_17 rfl rfl ?_
    obtain ⟨v15, ρ16, e17, hr⟩ := bq_some hr
    refine c_X14_223 (As := [.int 102]) (rest := []) (fun l => s_X14_is  hz e17 l) hrm dX14_source_19 rfl rfl (Nat.le_of_ble_eq_true rfl) (Nat.le_of_ble_eq_true rfl) (Nat.le_of_ble_eq_true rfl) (hz.o14 rfl) rfl (Nat.le_of_ble_eq_true rfl) (fun vr h2 hq => ?_) (fun E9 h9 hq => hq.elim)
    obtain ⟨rfl, hz⟩ := hq
    show wp _ _ 22 [(0, .ref (A 14 0 0)), (1, .int x1)] [.int v15] _ _ _
    refine w_if_eq 42 dX14_source_22 rfl rfl (fun q22 => ?_) (fun q22 => ?_)
    · have hr := bt q22 hr
      refine w_aload_n 0 dX14_source_42 rfl rfl rfl ?_
      refine w_bipush 101 dX14_source_43 rfl rfl ?_
      obtain ⟨v19, ρ20, e21, hr⟩ := bw_some hr
      rcases v19 with w23e | w23
      · exact noko (bw_er hr)
      have hr := bw_ok hr
      refine c_X14_284 (As := [.int 101]) (rest := []) (fun l => t_X14_take_  hz e21 l) hrm dX14_source_45 rfl rfl (Nat.le_of_ble_eq_true rfl) (Nat.le_of_ble_eq_true rfl) (Nat.le_of_ble_eq_true rfl) (hz.o14 rfl) rfl (Nat.le_of_ble_eq_true rfl) (fun vr h2 hq => ?_) (fun E9 h9 hq => hq.elim)
      obtain ⟨rfl, hz⟩ := hq
      show wp _ _ 48 [(0, .ref (A 14 0 0)), (1, .int x1)] [] _ _ _
      refine w_aload_n 0 dX14_source_48 rfl rfl rfl ?_
      obtain ⟨g25, hr⟩ := gd hr
      have hv24 := hz.ww909 (p := 0) (s := 0) rfl g25
      refine g_X14_232 dX14_source_49 rfl (hz.o14 rfl) (hz.rr909 rfl g25) ?_
      refine g_X14_368 dX14_source_52 rfl (hz.o12 hv24) (hz.r770 hv24) ?_
      refine w_iload_n 1 dX14_source_55 rfl rfl rfl ?_
      refine w_iconst 0 dX14_source_56 rfl rfl ?_
      obtain ⟨g26, hr⟩ := gd hr
      refine w_iast dX14_source_57 rfl (hz.k770 hv24) (gin (hz.n770 hv24) g26) ?_
      obtain ⟨ρ27, e28, hr⟩ := lt_e hr
      have hz := (hz.s770 (i := (Int32.toNatClampNeg x1)) (v := 0) hv24).tr e28
      refine w_aload_n 0 dX14_source_58 rfl rfl rfl ?_
      obtain ⟨g30, hr⟩ := gd hr
      have hv29 := hz.ww909 (p := 0) (s := 0) rfl g30
      refine g_X14_232 dX14_source_59 rfl (hz.o14 rfl) (hz.rr909 rfl g30) ?_
      refine g_X14_369 dX14_source_62 rfl (hz.o12 hv29) (hz.r775 hv29) ?_
      refine w_iload_n 1 dX14_source_65 rfl rfl rfl ?_
      refine w_iconst 0 dX14_source_66 rfl rfl ?_
      obtain ⟨g31, hr⟩ := gd hr
      refine w_iast dX14_source_67 rfl (hz.k775 hv29) (gin (hz.n775 hv29) g31) ?_
      obtain ⟨ρ32, e33, hr⟩ := lt_e hr
      have hz := (hz.s775 (i := (Int32.toNatClampNeg x1)) (v := 0) hv29).tr e33
      refine w_aload_n 0 dX14_source_68 rfl rfl rfl ?_
      refine w_iconst 1 dX14_source_69 rfl rfl ?_
      obtain ⟨v34, ρ35, e36, hr⟩ := bq_some hr
      refine c_X14_223 (As := [.int 1]) (rest := []) (fun l => s_X14_is  hz e36 l) hrm dX14_source_70 rfl rfl (Nat.le_of_ble_eq_true rfl) (Nat.le_of_ble_eq_true rfl) (Nat.le_of_ble_eq_true rfl) (hz.o14 rfl) rfl (Nat.le_of_ble_eq_true rfl) (fun vr h2 hq => ?_) (fun E9 h9 hq => hq.elim)
      obtain ⟨rfl, hz⟩ := hq
      show wp _ _ 73 [(0, .ref (A 14 0 0)), (1, .int x1)] [.int v34] _ _ _
      refine w_if_ne 77 dX14_source_73 rfl rfl (fun q73 => ?_) (fun q73 => ?_)
      · have hr := bf q73 hr
        refine w_aload_n 0 dX14_source_77 rfl rfl rfl ?_
        obtain ⟨v38, ρ39, e40, hr⟩ := bw_some hr
        rcases v38 with w42e | w42
        · exact noko (bw_er hr)
        have hr := bw_ok hr
        refine c_X14_226 (As := []) (rest := []) (fun l => t_X14_take  hz e40 l) hrm dX14_source_78 rfl rfl (Nat.le_of_ble_eq_true rfl) (Nat.le_of_ble_eq_true rfl) (Nat.le_of_ble_eq_true rfl) (hz.o14 rfl) rfl (Nat.le_of_ble_eq_true rfl) (fun vr h2 hq => ?_) (fun E9 h9 hq => hq.elim)
        obtain ⟨rfl, hz⟩ := hq
        show wp _ _ 81 [(0, .ref (A 14 0 0)), (1, .int x1)] [] _ _ _
        refine w_aload_n 0 dX14_source_81 rfl rfl rfl ?_
        obtain ⟨g44, hr⟩ := gd hr
        have hv43 := hz.ww909 (p := 0) (s := 0) rfl g44
        refine g_X14_232 dX14_source_82 rfl (hz.o14 rfl) (hz.rr909 rfl g44) ?_
        refine g_X14_369 dX14_source_85 rfl (hz.o12 hv43) (hz.r775 hv43) ?_
        refine w_iload_n 1 dX14_source_88 rfl rfl rfl ?_
        refine w_aload_n 0 dX14_source_89 rfl rfl rfl ?_
        refine w_iconst 0 dX14_source_90 rfl rfl ?_
        obtain ⟨v45, ρ46, e47, hr⟩ := bw_some hr
        rcases v45 with w49e | w49
        · exact noko (bw_er hr)
        have hr := bw_ok hr
        refine c_X14_372 (As := [.int 0]) (rest := [.int x1, .ref (A 1799 (zR ρ39 909 0 0 0).1 0)]) (fun l => t_X14_numberIn  hz e47 l) hrm dX14_source_91 rfl rfl (Nat.le_of_ble_eq_true rfl) (Nat.le_of_ble_eq_true rfl) (Nat.le_of_ble_eq_true rfl) (hz.o14 rfl) rfl (Nat.le_of_ble_eq_true rfl) (fun vr h2 hq => ?_) (fun E9 h9 hq => hq.elim)
        obtain ⟨rfl, hz⟩ := hq
        show wp _ _ 94 [(0, .ref (A 14 0 0)), (1, .int x1)] [.int w49, .int x1, .ref (A 1799 (zR ρ39 909 0 0 0).1 0)] _ _ _
        obtain ⟨g50, hr⟩ := gd hr
        refine w_iast dX14_source_94 rfl (hz.k775 hv43) (gin (hz.n775 hv43) g50) ?_
        obtain ⟨ρ51, e52, hr⟩ := lt_e hr
        have hz := (hz.s775 (i := (Int32.toNatClampNeg x1)) (v := w49) hv43).tr e52
        refine w_vret hf dX14_source_95 rfl (Nat.le_of_ble_eq_true rfl) (Nat.le_of_ble_eq_true rfl) ?_
        obtain ⟨rfl, rfl⟩ := retw hr
        exact ⟨rfl, hz⟩
      · have hr := bt q73 hr
        refine w_vret hf dX14_source_76 rfl (Nat.le_of_ble_eq_true rfl) (Nat.le_of_ble_eq_true rfl) ?_
        obtain ⟨rfl, rfl⟩ := retw hr
        exact ⟨rfl, hz⟩
    · have hr := bf q22 hr
      refine w_aload_n 0 dX14_source_25 rfl rfl rfl ?_
      obtain ⟨v53, ρ54, e55, hr⟩ := bw_some hr
      rcases v53 with w57e | w57
      · exact noko (bw_er hr)
      have hr := bw_ok hr
      refine c_X14_226 (As := []) (rest := []) (fun l => t_X14_take  hz e55 l) hrm dX14_source_26 rfl rfl (Nat.le_of_ble_eq_true rfl) (Nat.le_of_ble_eq_true rfl) (Nat.le_of_ble_eq_true rfl) (hz.o14 rfl) rfl (Nat.le_of_ble_eq_true rfl) (fun vr h2 hq => ?_) (fun E9 h9 hq => hq.elim)
      obtain ⟨rfl, hz⟩ := hq
      show wp _ _ 29 [(0, .ref (A 14 0 0)), (1, .int x1)] [] _ _ _
      refine w_aload_n 0 dX14_source_29 rfl rfl rfl ?_
      refine w_aload_n 0 dX14_source_30 rfl rfl rfl ?_
      obtain ⟨v58, ρ59, e60, hr⟩ := bw_some hr
      rcases v58 with w62e | w62
      · exact noko (bw_er hr)
      have hr := bw_ok hr
      refine c_X14_364 (As := []) (rest := [.ref (A 14 0 0)]) (fun l => t_X14_newColumn  hz e60 l) hrm dX14_source_31 rfl rfl (Nat.le_of_ble_eq_true rfl) (Nat.le_of_ble_eq_true rfl) (Nat.le_of_ble_eq_true rfl) (hz.o14 rfl) rfl (Nat.le_of_ble_eq_true rfl) (fun vr h2 hq => ?_) (fun E9 h9 hq => hq.elim)
      obtain ⟨rfl, hz⟩ := hq
      show wp _ _ 34 [(0, .ref (A 14 0 0)), (1, .int x1)] [.long w62, .ref (A 14 0 0)] _ _ _
      refine w_iconst 0 dX14_source_34 rfl rfl ?_
      refine w_iconst 0 dX14_source_35 rfl rfl ?_
      obtain ⟨v63, ρ64, e65, hr⟩ := bq_some hr
      refine c_X14_316 (As := [.long w62, .int 0, .int 0]) (rest := []) (fun l => s_X14_say  hz e65 l) hrm dX14_source_36 rfl rfl (Nat.le_of_ble_eq_true rfl) (Nat.le_of_ble_eq_true rfl) (Nat.le_of_ble_eq_true rfl) (hz.o14 rfl) rfl (Nat.le_of_ble_eq_true rfl) (fun vr h2 hq => ?_) (fun E9 h9 hq => hq.elim)
      obtain ⟨rfl, hz⟩ := hq
      show wp _ _ 39 [(0, .ref (A 14 0 0)), (1, .int x1)] [] _ _ _
      refine w_goto 16 dX14_source_39 rfl ?_
      refine w_lv [(0, .ref (A 14 0 0)), (1, .int x1)] [0, 1] rfl ?_
      exact u_X14_source_16 hf hrm   n  _ _ hz  hr
set_option maxRecDepth 20000 in
set_option maxHeartbeats 4000000 in
theorem t_X14_source {A : Nat → Nat → Nat → Nat} {h : Hp} {σ ρ ρ' : Zs} {v : Unit} {x1 : Int32}  (hz : Rp A h σ ρ) (hr : fX14_source x1 ρ = some (.ok v, ρ')) : ∀ l : Launch, Sp l mX14_source 16 0 0 [.ref (A 14 0 0), .int x1] h (QV A v σ ρ') X0 := by
  intro l
  refine Sp.of rfl rfl (lv := [(0, .ref (A 14 0 0)), (1, .int x1)]) (Nat.le_of_ble_eq_true rfl) rfl (fun x hf hrm => ?_)
  rw [fX14_source.eq_1] at hr
  refine w_aload_n 0 dX14_source_0 rfl rfl rfl ?_
  refine w_bipush 100 dX14_source_1 rfl rfl ?_
  obtain ⟨v1, ρ2, e3, hr⟩ := bw_some hr
  rcases v1 with w5e | w5
  · exact noko (bw_er hr)
  have hr := bw_ok hr
  refine c_X14_284 (As := [.int 100]) (rest := []) (fun l => t_X14_take_  hz e3 l) hrm dX14_source_3 rfl rfl (Nat.le_of_ble_eq_true rfl) (Nat.le_of_ble_eq_true rfl) (Nat.le_of_ble_eq_true rfl) (hz.o14 rfl) rfl (Nat.le_of_ble_eq_true rfl) (fun vr h2 hq => ?_) (fun E9 h9 hq => hq.elim)
  obtain ⟨rfl, hz⟩ := hq
  show wp _ _ 6 [(0, .ref (A 14 0 0)), (1, .int x1)] [] _ _ _
  refine w_aload_n 0 dX14_source_6 rfl rfl rfl ?_
  refine w_aload_n 0 dX14_source_7 rfl rfl rfl ?_
  obtain ⟨v6, ρ7, e8, hr⟩ := bw_some hr
  rcases v6 with w10e | w10
  · exact noko (bw_er hr)
  have hr := bw_ok hr
  refine c_X14_364 (As := []) (rest := [.ref (A 14 0 0)]) (fun l => t_X14_newColumn  hz e8 l) hrm dX14_source_8 rfl rfl (Nat.le_of_ble_eq_true rfl) (Nat.le_of_ble_eq_true rfl) (Nat.le_of_ble_eq_true rfl) (hz.o14 rfl) rfl (Nat.le_of_ble_eq_true rfl) (fun vr h2 hq => ?_) (fun E9 h9 hq => hq.elim)
  obtain ⟨rfl, hz⟩ := hq
  show wp _ _ 11 [(0, .ref (A 14 0 0)), (1, .int x1)] [.long w10, .ref (A 14 0 0)] _ _ _
  refine w_iconst 0 dX14_source_11 rfl rfl ?_
  refine w_iconst 0 dX14_source_12 rfl rfl ?_
  obtain ⟨v11, ρ12, e13, hr⟩ := bq_some hr
  refine c_X14_316 (As := [.long w10, .int 0, .int 0]) (rest := []) (fun l => s_X14_say  hz e13 l) hrm dX14_source_13 rfl rfl (Nat.le_of_ble_eq_true rfl) (Nat.le_of_ble_eq_true rfl) (Nat.le_of_ble_eq_true rfl) (hz.o14 rfl) rfl (Nat.le_of_ble_eq_true rfl) (fun vr h2 hq => ?_) (fun E9 h9 hq => hq.elim)
  obtain ⟨rfl, hz⟩ := hq
  show wp _ _ 16 [(0, .ref (A 14 0 0)), (1, .int x1)] [] _ _ _
  refine w_lv [(0, .ref (A 14 0 0)), (1, .int x1)] [0, 1] rfl ?_
  exact u_X14_source_16 hf hrm   FU  _ _ hz  hr

set_option maxRecDepth 20000 in
set_option maxHeartbeats 4000000 in
theorem x_X14_source_16 {A : Nat → Nat → Nat → Nat} {σ ρ' : Zs} {v : Int32 × Int32} {x : Cxt} {x1 : Int32}  (hf : m_fin 1 8 QF (XW A v σ ρ') x) (hrm : m_rm 16 1 8 x)  : ∀ (n : Nat) (ρ : Zs) (h : Hp), Rp A h σ ρ → fX14_source_16 x1  n  ρ = some (.error v, ρ') → wp x mX14_source 16 [(0, .ref (A 14 0 0)), (1, .int x1)] [] h 0 0
  | 0, ρ, h => fun hz hr => by
    rw [fX14_source_16.eq_1] at hr
    exact nono hr
  | n + 1, ρ, h => fun hz hr => by
    rw [fX14_source_16.eq_2] at hr
    refine w_aload_n 0 dX14_source_16 rfl rfl rfl ?_
    refine w_bipush 102 dX14_source_17 rfl rfl ?_
    obtain ⟨v15, ρ16, e17, hr⟩ := bq_some hr
    refine c_X14_223 (As := [.int 102]) (rest := []) (fun l => s_X14_is  hz e17 l) hrm dX14_source_19 rfl rfl (Nat.le_of_ble_eq_true rfl) (Nat.le_of_ble_eq_true rfl) (Nat.le_of_ble_eq_true rfl) (hz.o14 rfl) rfl (Nat.le_of_ble_eq_true rfl) (fun vr h2 hq => ?_) (fun E9 h9 hq => hq.elim)
    obtain ⟨rfl, hz⟩ := hq
    show wp _ _ 22 [(0, .ref (A 14 0 0)), (1, .int x1)] [.int v15] _ _ _
    refine w_if_eq 42 dX14_source_22 rfl rfl (fun q22 => ?_) (fun q22 => ?_)
    · have hr := bt q22 hr
      refine w_aload_n 0 dX14_source_42 rfl rfl rfl ?_
      refine w_bipush 101 dX14_source_43 rfl rfl ?_
      obtain ⟨v19, ρ20, e21, hr⟩ := bw_some hr
      rcases v19 with w23e | w23
      · obtain ⟨rfl, rfl⟩ := rete (bw_er hr)
        refine c_X14_284 (As := [.int 101]) (rest := []) (fun l => e_X14_take_  hz e21 l) hrm dX14_source_45 rfl rfl (Nat.le_of_ble_eq_true rfl) (Nat.le_of_ble_eq_true rfl) (Nat.le_of_ble_eq_true rfl) (hz.o14 rfl) rfl (Nat.le_of_ble_eq_true rfl) (fun vr h2 hq => hq.elim) (fun E9 h9 hq => ?_)
        exact w_out hf (Nat.le_of_ble_eq_true rfl) (Nat.le_of_ble_eq_true rfl) hq
      have hr := bw_ok hr
      refine c_X14_284 (As := [.int 101]) (rest := []) (fun l => t_X14_take_  hz e21 l) hrm dX14_source_45 rfl rfl (Nat.le_of_ble_eq_true rfl) (Nat.le_of_ble_eq_true rfl) (Nat.le_of_ble_eq_true rfl) (hz.o14 rfl) rfl (Nat.le_of_ble_eq_true rfl) (fun vr h2 hq => ?_) (fun E9 h9 hq => hq.elim)
      obtain ⟨rfl, hz⟩ := hq
      show wp _ _ 48 [(0, .ref (A 14 0 0)), (1, .int x1)] [] _ _ _
      refine w_aload_n 0 dX14_source_48 rfl rfl rfl ?_
      obtain ⟨g25, hr⟩ := gd hr
      have hv24 := hz.ww909 (p := 0) (s := 0) rfl g25
      refine g_X14_232 dX14_source_49 rfl (hz.o14 rfl) (hz.rr909 rfl g25) ?_
      refine g_X14_368 dX14_source_52 rfl (hz.o12 hv24) (hz.r770 hv24) ?_
      refine w_iload_n 1 dX14_source_55 rfl rfl rfl ?_
      refine w_iconst 0 dX14_source_56 rfl rfl ?_
      obtain ⟨g26, hr⟩ := gd hr
      refine w_iast dX14_source_57 rfl (hz.k770 hv24) (gin (hz.n770 hv24) g26) ?_
      obtain ⟨ρ27, e28, hr⟩ := lt_e hr
      have hz := (hz.s770 (i := (Int32.toNatClampNeg x1)) (v := 0) hv24).tr e28
      refine w_aload_n 0 dX14_source_58 rfl rfl rfl ?_
      obtain ⟨g30, hr⟩ := gd hr
      have hv29 := hz.ww909 (p := 0) (s := 0) rfl g30
      refine g_X14_232 dX14_source_59 rfl (hz.o14 rfl) (hz.rr909 rfl g30) ?_
      refine g_X14_369 dX14_source_62 rfl (hz.o12 hv29) (hz.r775 hv29) ?_
      refine w_iload_n 1 dX14_source_65 rfl rfl rfl ?_
      refine w_iconst 0 dX14_source_66 rfl rfl ?_
      obtain ⟨g31, hr⟩ := gd hr
      refine w_iast dX14_source_67 rfl (hz.k775 hv29) (gin (hz.n775 hv29) g31) ?_
      obtain ⟨ρ32, e33, hr⟩ := lt_e hr
      have hz := (hz.s775 (i := (Int32.toNatClampNeg x1)) (v := 0) hv29).tr e33
      refine w_aload_n 0 dX14_source_68 rfl rfl rfl ?_
      refine w_iconst 1 dX14_source_69 rfl rfl ?_
      obtain ⟨v34, ρ35, e36, hr⟩ := bq_some hr
      refine c_X14_223 (As := [.int 1]) (rest := []) (fun l => s_X14_is  hz e36 l) hrm dX14_source_70 rfl rfl (Nat.le_of_ble_eq_true rfl) (Nat.le_of_ble_eq_true rfl) (Nat.le_of_ble_eq_true rfl) (hz.o14 rfl) rfl (Nat.le_of_ble_eq_true rfl) (fun vr h2 hq => ?_) (fun E9 h9 hq => hq.elim)
      obtain ⟨rfl, hz⟩ := hq
      show wp _ _ 73 [(0, .ref (A 14 0 0)), (1, .int x1)] [.int v34] _ _ _
      refine w_if_ne 77 dX14_source_73 rfl rfl (fun q73 => ?_) (fun q73 => ?_)
      · have hr := bf q73 hr
        refine w_aload_n 0 dX14_source_77 rfl rfl rfl ?_
        obtain ⟨v38, ρ39, e40, hr⟩ := bw_some hr
        rcases v38 with w42e | w42
        · obtain ⟨rfl, rfl⟩ := rete (bw_er hr)
          refine c_X14_226 (As := []) (rest := []) (fun l => e_X14_take  hz e40 l) hrm dX14_source_78 rfl rfl (Nat.le_of_ble_eq_true rfl) (Nat.le_of_ble_eq_true rfl) (Nat.le_of_ble_eq_true rfl) (hz.o14 rfl) rfl (Nat.le_of_ble_eq_true rfl) (fun vr h2 hq => hq.elim) (fun E9 h9 hq => ?_)
          exact w_out hf (Nat.le_of_ble_eq_true rfl) (Nat.le_of_ble_eq_true rfl) hq
        have hr := bw_ok hr
        refine c_X14_226 (As := []) (rest := []) (fun l => t_X14_take  hz e40 l) hrm dX14_source_78 rfl rfl (Nat.le_of_ble_eq_true rfl) (Nat.le_of_ble_eq_true rfl) (Nat.le_of_ble_eq_true rfl) (hz.o14 rfl) rfl (Nat.le_of_ble_eq_true rfl) (fun vr h2 hq => ?_) (fun E9 h9 hq => hq.elim)
        obtain ⟨rfl, hz⟩ := hq
        show wp _ _ 81 [(0, .ref (A 14 0 0)), (1, .int x1)] [] _ _ _
        refine w_aload_n 0 dX14_source_81 rfl rfl rfl ?_
        obtain ⟨g44, hr⟩ := gd hr
        have hv43 := hz.ww909 (p := 0) (s := 0) rfl g44
        refine g_X14_232 dX14_source_82 rfl (hz.o14 rfl) (hz.rr909 rfl g44) ?_
        refine g_X14_369 dX14_source_85 rfl (hz.o12 hv43) (hz.r775 hv43) ?_
        refine w_iload_n 1 dX14_source_88 rfl rfl rfl ?_
        refine w_aload_n 0 dX14_source_89 rfl rfl rfl ?_
        refine w_iconst 0 dX14_source_90 rfl rfl ?_
        obtain ⟨v45, ρ46, e47, hr⟩ := bw_some hr
        rcases v45 with w49e | w49
        · obtain ⟨rfl, rfl⟩ := rete (bw_er hr)
          refine c_X14_372 (As := [.int 0]) (rest := [.int x1, .ref (A 1799 (zR ρ39 909 0 0 0).1 0)]) (fun l => e_X14_numberIn  hz e47 l) hrm dX14_source_91 rfl rfl (Nat.le_of_ble_eq_true rfl) (Nat.le_of_ble_eq_true rfl) (Nat.le_of_ble_eq_true rfl) (hz.o14 rfl) rfl (Nat.le_of_ble_eq_true rfl) (fun vr h2 hq => hq.elim) (fun E9 h9 hq => ?_)
          exact w_out hf (Nat.le_of_ble_eq_true rfl) (Nat.le_of_ble_eq_true rfl) hq
        have hr := bw_ok hr
        refine c_X14_372 (As := [.int 0]) (rest := [.int x1, .ref (A 1799 (zR ρ39 909 0 0 0).1 0)]) (fun l => t_X14_numberIn  hz e47 l) hrm dX14_source_91 rfl rfl (Nat.le_of_ble_eq_true rfl) (Nat.le_of_ble_eq_true rfl) (Nat.le_of_ble_eq_true rfl) (hz.o14 rfl) rfl (Nat.le_of_ble_eq_true rfl) (fun vr h2 hq => ?_) (fun E9 h9 hq => hq.elim)
        obtain ⟨rfl, hz⟩ := hq
        show wp _ _ 94 [(0, .ref (A 14 0 0)), (1, .int x1)] [.int w49, .int x1, .ref (A 1799 (zR ρ39 909 0 0 0).1 0)] _ _ _
        obtain ⟨g50, hr⟩ := gd hr
        refine w_iast dX14_source_94 rfl (hz.k775 hv43) (gin (hz.n775 hv43) g50) ?_
        obtain ⟨ρ51, e52, hr⟩ := lt_e hr
        have hz := (hz.s775 (i := (Int32.toNatClampNeg x1)) (v := w49) hv43).tr e52
        exact noek hr
      · have hr := bt q73 hr
        exact noek hr
    · have hr := bf q22 hr
      refine w_aload_n 0 dX14_source_25 rfl rfl rfl ?_
      obtain ⟨v53, ρ54, e55, hr⟩ := bw_some hr
      rcases v53 with w57e | w57
      · obtain ⟨rfl, rfl⟩ := rete (bw_er hr)
        refine c_X14_226 (As := []) (rest := []) (fun l => e_X14_take  hz e55 l) hrm dX14_source_26 rfl rfl (Nat.le_of_ble_eq_true rfl) (Nat.le_of_ble_eq_true rfl) (Nat.le_of_ble_eq_true rfl) (hz.o14 rfl) rfl (Nat.le_of_ble_eq_true rfl) (fun vr h2 hq => hq.elim) (fun E9 h9 hq => ?_)
        exact w_out hf (Nat.le_of_ble_eq_true rfl) (Nat.le_of_ble_eq_true rfl) hq
      have hr := bw_ok hr
      refine c_X14_226 (As := []) (rest := []) (fun l => t_X14_take  hz e55 l) hrm dX14_source_26 rfl rfl (Nat.le_of_ble_eq_true rfl) (Nat.le_of_ble_eq_true rfl) (Nat.le_of_ble_eq_true rfl) (hz.o14 rfl) rfl (Nat.le_of_ble_eq_true rfl) (fun vr h2 hq => ?_) (fun E9 h9 hq => hq.elim)
      obtain ⟨rfl, hz⟩ := hq
      show wp _ _ 29 [(0, .ref (A 14 0 0)), (1, .int x1)] [] _ _ _
      refine w_aload_n 0 dX14_source_29 rfl rfl rfl ?_
      refine w_aload_n 0 dX14_source_30 rfl rfl rfl ?_
      obtain ⟨v58, ρ59, e60, hr⟩ := bw_some hr
      rcases v58 with w62e | w62
      · obtain ⟨rfl, rfl⟩ := rete (bw_er hr)
        refine c_X14_364 (As := []) (rest := [.ref (A 14 0 0)]) (fun l => e_X14_newColumn  hz e60 l) hrm dX14_source_31 rfl rfl (Nat.le_of_ble_eq_true rfl) (Nat.le_of_ble_eq_true rfl) (Nat.le_of_ble_eq_true rfl) (hz.o14 rfl) rfl (Nat.le_of_ble_eq_true rfl) (fun vr h2 hq => hq.elim) (fun E9 h9 hq => ?_)
        exact w_out hf (Nat.le_of_ble_eq_true rfl) (Nat.le_of_ble_eq_true rfl) hq
      have hr := bw_ok hr
      refine c_X14_364 (As := []) (rest := [.ref (A 14 0 0)]) (fun l => t_X14_newColumn  hz e60 l) hrm dX14_source_31 rfl rfl (Nat.le_of_ble_eq_true rfl) (Nat.le_of_ble_eq_true rfl) (Nat.le_of_ble_eq_true rfl) (hz.o14 rfl) rfl (Nat.le_of_ble_eq_true rfl) (fun vr h2 hq => ?_) (fun E9 h9 hq => hq.elim)
      obtain ⟨rfl, hz⟩ := hq
      show wp _ _ 34 [(0, .ref (A 14 0 0)), (1, .int x1)] [.long w62, .ref (A 14 0 0)] _ _ _
      refine w_iconst 0 dX14_source_34 rfl rfl ?_
      refine w_iconst 0 dX14_source_35 rfl rfl ?_
      obtain ⟨v63, ρ64, e65, hr⟩ := bq_some hr
      refine c_X14_316 (As := [.long w62, .int 0, .int 0]) (rest := []) (fun l => s_X14_say  hz e65 l) hrm dX14_source_36 rfl rfl (Nat.le_of_ble_eq_true rfl) (Nat.le_of_ble_eq_true rfl) (Nat.le_of_ble_eq_true rfl) (hz.o14 rfl) rfl (Nat.le_of_ble_eq_true rfl) (fun vr h2 hq => ?_) (fun E9 h9 hq => hq.elim)
      obtain ⟨rfl, hz⟩ := hq
      show wp _ _ 39 [(0, .ref (A 14 0 0)), (1, .int x1)] [] _ _ _
      refine w_goto 16 dX14_source_39 rfl ?_
      refine w_lv [(0, .ref (A 14 0 0)), (1, .int x1)] [0, 1] rfl ?_
      exact x_X14_source_16 hf hrm   n  _ _ hz  hr
set_option maxRecDepth 20000 in
set_option maxHeartbeats 4000000 in
theorem e_X14_source {A : Nat → Nat → Nat → Nat} {h : Hp} {σ ρ ρ' : Zs} {v : Int32 × Int32} {x1 : Int32}  (hz : Rp A h σ ρ) (hr : fX14_source x1 ρ = some (.error v, ρ')) : ∀ l : Launch, Sp l mX14_source 16 1 8 [.ref (A 14 0 0), .int x1] h QF (XW A v σ ρ') := by
  intro l
  refine Sp.of rfl rfl (lv := [(0, .ref (A 14 0 0)), (1, .int x1)]) (Nat.le_of_ble_eq_true rfl) rfl (fun x hf hrm => ?_)
  rw [fX14_source.eq_1] at hr
  refine w_aload_n 0 dX14_source_0 rfl rfl rfl ?_
  refine w_bipush 100 dX14_source_1 rfl rfl ?_
  obtain ⟨v1, ρ2, e3, hr⟩ := bw_some hr
  rcases v1 with w5e | w5
  · obtain ⟨rfl, rfl⟩ := rete (bw_er hr)
    refine c_X14_284 (As := [.int 100]) (rest := []) (fun l => e_X14_take_  hz e3 l) hrm dX14_source_3 rfl rfl (Nat.le_of_ble_eq_true rfl) (Nat.le_of_ble_eq_true rfl) (Nat.le_of_ble_eq_true rfl) (hz.o14 rfl) rfl (Nat.le_of_ble_eq_true rfl) (fun vr h2 hq => hq.elim) (fun E9 h9 hq => ?_)
    exact w_out hf (Nat.le_of_ble_eq_true rfl) (Nat.le_of_ble_eq_true rfl) hq
  have hr := bw_ok hr
  refine c_X14_284 (As := [.int 100]) (rest := []) (fun l => t_X14_take_  hz e3 l) hrm dX14_source_3 rfl rfl (Nat.le_of_ble_eq_true rfl) (Nat.le_of_ble_eq_true rfl) (Nat.le_of_ble_eq_true rfl) (hz.o14 rfl) rfl (Nat.le_of_ble_eq_true rfl) (fun vr h2 hq => ?_) (fun E9 h9 hq => hq.elim)
  obtain ⟨rfl, hz⟩ := hq
  show wp _ _ 6 [(0, .ref (A 14 0 0)), (1, .int x1)] [] _ _ _
  refine w_aload_n 0 dX14_source_6 rfl rfl rfl ?_
  refine w_aload_n 0 dX14_source_7 rfl rfl rfl ?_
  obtain ⟨v6, ρ7, e8, hr⟩ := bw_some hr
  rcases v6 with w10e | w10
  · obtain ⟨rfl, rfl⟩ := rete (bw_er hr)
    refine c_X14_364 (As := []) (rest := [.ref (A 14 0 0)]) (fun l => e_X14_newColumn  hz e8 l) hrm dX14_source_8 rfl rfl (Nat.le_of_ble_eq_true rfl) (Nat.le_of_ble_eq_true rfl) (Nat.le_of_ble_eq_true rfl) (hz.o14 rfl) rfl (Nat.le_of_ble_eq_true rfl) (fun vr h2 hq => hq.elim) (fun E9 h9 hq => ?_)
    exact w_out hf (Nat.le_of_ble_eq_true rfl) (Nat.le_of_ble_eq_true rfl) hq
  have hr := bw_ok hr
  refine c_X14_364 (As := []) (rest := [.ref (A 14 0 0)]) (fun l => t_X14_newColumn  hz e8 l) hrm dX14_source_8 rfl rfl (Nat.le_of_ble_eq_true rfl) (Nat.le_of_ble_eq_true rfl) (Nat.le_of_ble_eq_true rfl) (hz.o14 rfl) rfl (Nat.le_of_ble_eq_true rfl) (fun vr h2 hq => ?_) (fun E9 h9 hq => hq.elim)
  obtain ⟨rfl, hz⟩ := hq
  show wp _ _ 11 [(0, .ref (A 14 0 0)), (1, .int x1)] [.long w10, .ref (A 14 0 0)] _ _ _
  refine w_iconst 0 dX14_source_11 rfl rfl ?_
  refine w_iconst 0 dX14_source_12 rfl rfl ?_
  obtain ⟨v11, ρ12, e13, hr⟩ := bq_some hr
  refine c_X14_316 (As := [.long w10, .int 0, .int 0]) (rest := []) (fun l => s_X14_say  hz e13 l) hrm dX14_source_13 rfl rfl (Nat.le_of_ble_eq_true rfl) (Nat.le_of_ble_eq_true rfl) (Nat.le_of_ble_eq_true rfl) (hz.o14 rfl) rfl (Nat.le_of_ble_eq_true rfl) (fun vr h2 hq => ?_) (fun E9 h9 hq => hq.elim)
  obtain ⟨rfl, hz⟩ := hq
  show wp _ _ 16 [(0, .ref (A 14 0 0)), (1, .int x1)] [] _ _ _
  refine w_lv [(0, .ref (A 14 0 0)), (1, .int x1)] [0, 1] rfl ?_
  exact x_X14_source_16 hf hrm   FU  _ _ hz  hr

set_option maxRecDepth 20000 in
set_option maxHeartbeats 4000000 in
theorem u_X14_check_22 {A : Nat → Nat → Nat → Nat} {σ ρ' : Zs} {v : Unit} {x : Cxt} {x1 : Int32}  (hf : m_fin 0 0 (QV A v σ ρ') X0 x) (hrm : m_rm 97 0 0 x)  : ∀ (z0 : Int32) (ρ : Zs) (h : Hp), Rp A h σ ρ → fX14_check_22 x1  z0 ρ = some (.ok v, ρ') → wp x mX14_check 22 [(0, .ref (A 14 0 0)), (1, .int x1)] [.int z0, .ref (A 14 0 0)] h 0 0 := by
  intro z0 ρ h hz hr
  rw [fX14_check_22.eq_1] at hr
  refine w_iconst 4 dX14_check_22 rfl rfl ?_
  refine w_iload_n 1 dX14_check_23 rfl rfl rfl ?_
  obtain ⟨v8, ρ9, e10, hr⟩ := bw_some hr
  rcases v8 with w12e | w12
  · exact noko (bw_er hr)
  have hr := bw_ok hr
  refine c_X14_277 (As := [.int z0, .int 4, .int x1]) (rest := []) (fun l => t_X14_must  hz e10 l) hrm dX14_check_24 rfl rfl (Nat.le_of_ble_eq_true rfl) (Nat.le_of_ble_eq_true rfl) (Nat.le_of_ble_eq_true rfl) (hz.o14 rfl) rfl (Nat.le_of_ble_eq_true rfl) (fun vr h2 hq => ?_) (fun E9 h9 hq => hq.elim)
  obtain ⟨rfl, hz⟩ := hq
  show wp _ _ 27 [(0, .ref (A 14 0 0)), (1, .int x1)] [] _ _ _
  refine w_aload_n 0 dX14_check_27 rfl rfl rfl ?_
  obtain ⟨v13, ρ14, e15, hr⟩ := bw_some hr
  rcases v13 with w17e | w17
  · exact noko (bw_er hr)
  have hr := bw_ok hr
  refine c_X14_344 (As := []) (rest := []) (fun l => t_X14_streamNamed  hz e15 l) hrm dX14_check_28 rfl rfl (Nat.le_of_ble_eq_true rfl) (Nat.le_of_ble_eq_true rfl) (Nat.le_of_ble_eq_true rfl) (hz.o14 rfl) rfl (Nat.le_of_ble_eq_true rfl) (fun vr h2 hq => ?_) (fun E9 h9 hq => hq.elim)
  obtain ⟨rfl, hz⟩ := hq
  show wp _ _ 31 [(0, .ref (A 14 0 0)), (1, .int x1)] [.int w17] _ _ _
  refine w_istore_n [(2, .int w17), (0, .ref (A 14 0 0)), (1, .int x1)] dX14_check_31 rfl rfl (by decide) rfl ?_
  refine w_aload_n 1 dX14_check_32 rfl rfl rfl ?_
  refine w_bipush 103 dX14_check_33 rfl rfl ?_
  obtain ⟨v18, ρ19, e20, hr⟩ := bw_some hr
  rcases v18 with w22e | w22
  · exact noko (bw_er hr)
  have hr := bw_ok hr
  refine c_X14_284 (As := [.int 103]) (rest := []) (fun l => t_X14_take_  hz e20 l) hrm dX14_check_35 rfl rfl (Nat.le_of_ble_eq_true rfl) (Nat.le_of_ble_eq_true rfl) (Nat.le_of_ble_eq_true rfl) (hz.o14 rfl) rfl (Nat.le_of_ble_eq_true rfl) (fun vr h2 hq => ?_) (fun E9 h9 hq => hq.elim)
  obtain ⟨rfl, hz⟩ := hq
  show wp _ _ 38 [(2, .int w17), (0, .ref (A 14 0 0)), (1, .int x1)] [] _ _ _
  refine w_aload_n 1 dX14_check_38 rfl rfl rfl ?_
  refine w_iload_n 0 dX14_check_39 rfl rfl rfl ?_
  refine p_X14_270 dX14_check_40 rfl (hz.o14 rfl) ?_
  obtain ⟨ρ23, e24, hr⟩ := lt_e hr
  have hz := (hz.s910 (v := w17) rfl).tr e24
  refine w_aload_n 1 dX14_check_43 rfl rfl rfl ?_
  obtain ⟨v25, ρ26, e27, hr⟩ := bw_some hr
  rcases v25 with w29e | w29
  · exact noko (bw_er hr)
  have hr := bw_ok hr
  refine c_X14_348 (As := []) (rest := []) (fun l => t_X14_whole  hz e27 l) hrm dX14_check_44 rfl rfl (Nat.le_of_ble_eq_true rfl) (Nat.le_of_ble_eq_true rfl) (Nat.le_of_ble_eq_true rfl) (hz.o14 rfl) rfl (Nat.le_of_ble_eq_true rfl) (fun vr h2 hq => ?_) (fun E9 h9 hq => hq.elim)
  obtain ⟨rfl, hz⟩ := hq
  show wp _ _ 47 [(2, .int w17), (0, .ref (A 14 0 0)), (1, .int x1)] [.int w29] _ _ _
  refine w_istore_n [(3, .int w29), (2, .int w17), (0, .ref (A 14 0 0)), (1, .int x1)] dX14_check_47 rfl rfl (by decide) rfl ?_
  refine w_aload_n 2 dX14_check_48 rfl rfl rfl ?_
  refine w_bipush 18 dX14_check_49 rfl rfl ?_
  obtain ⟨v30, ρ31, e32, hr⟩ := bw_some hr
  rcases v30 with w34e | w34
  · exact noko (bw_er hr)
  have hr := bw_ok hr
  refine c_X14_284 (As := [.int 18]) (rest := []) (fun l => t_X14_take_  hz e32 l) hrm dX14_check_51 rfl rfl (Nat.le_of_ble_eq_true rfl) (Nat.le_of_ble_eq_true rfl) (Nat.le_of_ble_eq_true rfl) (hz.o14 rfl) rfl (Nat.le_of_ble_eq_true rfl) (fun vr h2 hq => ?_) (fun E9 h9 hq => hq.elim)
  obtain ⟨rfl, hz⟩ := hq
  show wp _ _ 54 [(3, .int w29), (2, .int w17), (0, .ref (A 14 0 0)), (1, .int x1)] [] _ _ _
  refine w_aload_n 2 dX14_check_54 rfl rfl rfl ?_
  refine g_X14_24 dX14_check_55 rfl (hz.o14 rfl) (hz.r902 rfl) ?_
  refine w_aload_n 2 dX14_check_58 rfl rfl rfl ?_
  refine g_X14_204 dX14_check_59 rfl (hz.o14 rfl) (hz.i905 rfl) ?_
  obtain ⟨g35, hr⟩ := gd hr
  refine w_iald dX14_check_62 rfl (hz.k902 rfl) (gin (hz.n902 rfl) g35) (hz.x902 rfl) ?_
  refine w_i2l dX14_check_63 rfl ?_
  refine w_ldc2 dX14_check_64 rfl k_X14_351 ?_
  refine w_ldc2 dX14_check_67 rfl k_X14_353 ?_
  obtain ⟨v36, ρ37, e38, hr⟩ := bq_some hr
  refine c_X14_163 (b := 0) (As := [.long (((zI ρ31 1926 0 0 (Int32.toNatClampNeg (zI ρ31 905 0 0 0))) : Int32).toInt64), .long 19, .long 21]) (rest := []) (fun l => s_X14_isIn  hz e38 l) hrm dX14_check_70 rfl rfl (Nat.le_of_ble_eq_true rfl) (Nat.le_of_ble_eq_true rfl) (Nat.le_of_ble_eq_true rfl) rfl (Nat.le_of_ble_eq_true rfl) (fun vr h2 hq => ?_) (fun E9 h9 hq => hq.elim)
  obtain ⟨rfl, hz⟩ := hq
  show wp _ _ 73 [(3, .int w29), (2, .int w17), (0, .ref (A 14 0 0)), (1, .int x1)] [.int v36] _ _ _
  refine w_if_ne 81 dX14_check_73 rfl rfl (fun q73 => ?_) (fun q73 => ?_)
  · have hr := bf q73 hr
    refine w_aload_n 2 dX14_check_81 rfl rfl rfl ?_
    refine g_X14_24 dX14_check_82 rfl (hz.o14 rfl) (hz.r902 rfl) ?_
    refine w_aload_n 2 dX14_check_85 rfl rfl rfl ?_
    refine g_X14_204 dX14_check_86 rfl (hz.o14 rfl) (hz.i905 rfl) ?_
    obtain ⟨g40, hr⟩ := gd hr
    refine w_iald dX14_check_89 rfl (hz.k902 rfl) (gin (hz.n902 rfl) g40) (hz.x902 rfl) ?_
    refine w_istore [(4, .int (zI ρ37 1926 0 0 (Int32.toNatClampNeg (zI ρ37 905 0 0 0)))), (3, .int w29), (2, .int w17), (0, .ref (A 14 0 0)), (1, .int x1)] dX14_check_90 rfl (by decide) rfl ?_
    refine w_aload_n 3 dX14_check_92 rfl rfl rfl ?_
    obtain ⟨v41, ρ42, e43, hr⟩ := bw_some hr
    rcases v41 with w45e | w45
    · exact noko (bw_er hr)
    have hr := bw_ok hr
    refine c_X14_226 (As := []) (rest := []) (fun l => t_X14_take  hz e43 l) hrm dX14_check_93 rfl rfl (Nat.le_of_ble_eq_true rfl) (Nat.le_of_ble_eq_true rfl) (Nat.le_of_ble_eq_true rfl) (hz.o14 rfl) rfl (Nat.le_of_ble_eq_true rfl) (fun vr h2 hq => ?_) (fun E9 h9 hq => hq.elim)
    obtain ⟨rfl, hz⟩ := hq
    show wp _ _ 96 [(4, .int (zI ρ37 1926 0 0 (Int32.toNatClampNeg (zI ρ37 905 0 0 0)))), (3, .int w29), (2, .int w17), (0, .ref (A 14 0 0)), (1, .int x1)] [] _ _ _
    refine w_aload_n 3 dX14_check_96 rfl rfl rfl ?_
    refine g_X14_212 dX14_check_97 rfl (hz.o14 rfl) (hz.i906 rfl) ?_
    refine w_if_ne 104 dX14_check_100 rfl rfl (fun q100 => ?_) (fun q100 => ?_)
    · have hr := bf q100 hr
      refine w_aload_n 3 dX14_check_104 rfl rfl rfl ?_
      obtain ⟨g47, hr⟩ := gd hr
      have hv46 := hz.ww909 (p := 0) (s := 0) rfl g47
      refine g_X14_232 dX14_check_105 rfl (hz.o14 rfl) (hz.rr909 rfl g47) ?_
      refine g_X14_355 dX14_check_108 rfl (hz.o12 hv46) (hz.r782 hv46) ?_
      refine w_aload_n 3 dX14_check_111 rfl rfl rfl ?_
      obtain ⟨g49, hr⟩ := gd hr
      have hv48 := hz.ww909 (p := 0) (s := 0) rfl g49
      refine g_X14_232 dX14_check_112 rfl (hz.o14 rfl) (hz.rr909 rfl g49) ?_
      refine g_X14_341 dX14_check_115 rfl (hz.o12 hv48) (hz.i781 hv48) ?_
      refine w_iload_n 2 dX14_check_118 rfl rfl rfl ?_
      obtain ⟨g50, hr⟩ := gd hr
      refine w_iast dX14_check_119 rfl (hz.k782 hv46) (gin (hz.n782 hv46) g50) ?_
      obtain ⟨ρ51, e52, hr⟩ := lt_e hr
      have hz := (hz.s782 (i := (Int32.toNatClampNeg (zI ρ42 781 ((zR ρ42 909 0 0 0).1) 0 0))) (v := w17) hv46).tr e52
      refine w_aload_n 3 dX14_check_120 rfl rfl rfl ?_
      obtain ⟨g54, hr⟩ := gd hr
      have hv53 := hz.ww909 (p := 0) (s := 0) rfl g54
      refine g_X14_232 dX14_check_121 rfl (hz.o14 rfl) (hz.rr909 rfl g54) ?_
      refine g_X14_358 dX14_check_124 rfl (hz.o12 hv53) (hz.r783 hv53) ?_
      refine w_aload_n 3 dX14_check_127 rfl rfl rfl ?_
      obtain ⟨g56, hr⟩ := gd hr
      have hv55 := hz.ww909 (p := 0) (s := 0) rfl g56
      refine g_X14_232 dX14_check_128 rfl (hz.o14 rfl) (hz.rr909 rfl g56) ?_
      refine g_X14_341 dX14_check_131 rfl (hz.o12 hv55) (hz.i781 hv55) ?_
      refine w_iload_n 1 dX14_check_134 rfl rfl rfl ?_
      obtain ⟨g57, hr⟩ := gd hr
      refine w_iast dX14_check_135 rfl (hz.k783 hv53) (gin (hz.n783 hv53) g57) ?_
      obtain ⟨ρ58, e59, hr⟩ := lt_e hr
      have hz := (hz.s783 (i := (Int32.toNatClampNeg (zI ρ51 781 ((zR ρ51 909 0 0 0).1) 0 0))) (v := w29) hv53).tr e59
      refine w_aload_n 3 dX14_check_136 rfl rfl rfl ?_
      obtain ⟨g61, hr⟩ := gd hr
      have hv60 := hz.ww909 (p := 0) (s := 0) rfl g61
      refine g_X14_232 dX14_check_137 rfl (hz.o14 rfl) (hz.rr909 rfl g61) ?_
      refine g_X14_361 dX14_check_140 rfl (hz.o12 hv60) (hz.r784 hv60) ?_
      refine w_aload_n 3 dX14_check_143 rfl rfl rfl ?_
      obtain ⟨g63, hr⟩ := gd hr
      have hv62 := hz.ww909 (p := 0) (s := 0) rfl g63
      refine g_X14_232 dX14_check_144 rfl (hz.o14 rfl) (hz.rr909 rfl g63) ?_
      refine g_X14_341 dX14_check_147 rfl (hz.o12 hv62) (hz.i781 hv62) ?_
      refine w_iload 0 dX14_check_150 rfl rfl ?_
      obtain ⟨g64, hr⟩ := gd hr
      refine w_iast dX14_check_152 rfl (hz.k784 hv60) (gin (hz.n784 hv60) g64) ?_
      obtain ⟨ρ65, e66, hr⟩ := lt_e hr
      have hz := (hz.s784 (i := (Int32.toNatClampNeg (zI ρ58 781 ((zR ρ58 909 0 0 0).1) 0 0))) (v := (zI ρ37 1926 0 0 (Int32.toNatClampNeg (zI ρ37 905 0 0 0)))) hv60).tr e66
      refine w_aload_n 3 dX14_check_153 rfl rfl rfl ?_
      obtain ⟨g68, hr⟩ := gd hr
      have hv67 := hz.ww909 (p := 0) (s := 0) rfl g68
      refine g_X14_232 dX14_check_154 rfl (hz.o14 rfl) (hz.rr909 rfl g68) ?_
      refine w_dup dX14_check_157 rfl rfl ?_
      refine g_X14_341 dX14_check_158 rfl (hz.o12 hv67) (hz.i781 hv67) ?_
      refine w_iconst 1 dX14_check_161 rfl rfl ?_
      refine w_iadd dX14_check_162 rfl ?_
      refine p_X14_341 dX14_check_163 rfl (hz.o12 hv67) ?_
      obtain ⟨ρ69, e70, hr⟩ := lt_e hr
      have hz := (hz.s781 (v := ((zI ρ65 781 ((zR ρ65 909 0 0 0).1) 0 0) + 1)) hv67).tr e70
      refine w_vret hf dX14_check_166 rfl (Nat.le_of_ble_eq_true rfl) (Nat.le_of_ble_eq_true rfl) ?_
      obtain ⟨rfl, rfl⟩ := retw hr
      exact ⟨rfl, hz⟩
    · have hr := bt q100 hr
      refine w_vret hf dX14_check_103 rfl (Nat.le_of_ble_eq_true rfl) (Nat.le_of_ble_eq_true rfl) ?_
      obtain ⟨rfl, rfl⟩ := retw hr
      exact ⟨rfl, hz⟩
  · have hr := bt q73 hr
    refine w_aload_n 2 dX14_check_76 rfl rfl rfl ?_
    obtain ⟨w71, ρ72, e73, hr⟩ := bq_some hr
    exact noko hr
set_option maxRecDepth 20000 in
set_option maxHeartbeats 4000000 in
theorem t_X14_check {A : Nat → Nat → Nat → Nat} {h : Hp} {σ ρ ρ' : Zs} {v : Unit} {x1 : Int32}  (hz : Rp A h σ ρ) (hr : fX14_check x1 ρ = some (.ok v, ρ')) : ∀ l : Launch, Sp l mX14_check 97 0 0 [.ref (A 14 0 0), .int x1] h (QV A v σ ρ') X0 := by
  intro l
  refine Sp.of rfl rfl (lv := [(0, .ref (A 14 0 0)), (1, .int x1)]) (Nat.le_of_ble_eq_true rfl) rfl (fun x hf hrm => ?_)
  rw [fX14_check.eq_1] at hr
  refine w_aload_n 0 dX14_check_0 rfl rfl rfl ?_
  obtain ⟨v1, ρ2, e3, hr⟩ := bw_some hr
  rcases v1 with w5e | w5
  · exact noko (bw_er hr)
  have hr := bw_ok hr
  refine c_X14_226 (As := []) (rest := []) (fun l => t_X14_take  hz e3 l) hrm dX14_check_1 rfl rfl (Nat.le_of_ble_eq_true rfl) (Nat.le_of_ble_eq_true rfl) (Nat.le_of_ble_eq_true rfl) (hz.o14 rfl) rfl (Nat.le_of_ble_eq_true rfl) (fun vr h2 hq => ?_) (fun E9 h9 hq => hq.elim)
  obtain ⟨rfl, hz⟩ := hq
  show wp _ _ 4 [(0, .ref (A 14 0 0)), (1, .int x1)] [] _ _ _
  refine w_aload_n 0 dX14_check_4 rfl rfl rfl ?_
  refine w_aload_n 0 dX14_check_5 rfl rfl rfl ?_
  obtain ⟨g7, hr⟩ := gd hr
  have hv6 := hz.ww909 (p := 0) (s := 0) rfl g7
  refine g_X14_232 dX14_check_6 rfl (hz.o14 rfl) (hz.rr909 rfl g7) ?_
  refine g_X14_341 dX14_check_9 rfl (hz.o12 hv6) (hz.i781 hv6) ?_
  refine w_bipush 8 dX14_check_12 rfl rfl ?_
  refine w_icmp_ge 21 dX14_check_14 rfl rfl (fun q14 => ?_) (fun q14 => ?_)
  · have hr := bt q14 hr
    refine w_iconst 0 dX14_check_21 rfl rfl ?_
    refine w_lv [(0, .ref (A 14 0 0)), (1, .int x1)] [0, 1] rfl ?_
    exact u_X14_check_22 hf hrm   0 _ _ hz  hr
  · have hr := bf q14 hr
    refine w_iconst 1 dX14_check_17 rfl rfl ?_
    refine w_goto 22 dX14_check_18 rfl ?_
    refine w_lv [(0, .ref (A 14 0 0)), (1, .int x1)] [0, 1] rfl ?_
    exact u_X14_check_22 hf hrm   1 _ _ hz  hr

set_option maxRecDepth 20000 in
set_option maxHeartbeats 4000000 in
theorem x_X14_check_22 {A : Nat → Nat → Nat → Nat} {σ ρ' : Zs} {v : Int32 × Int32} {x : Cxt} {x1 : Int32}  (hf : m_fin 1 8 QF (XW A v σ ρ') x) (hrm : m_rm 97 1 8 x)  : ∀ (z0 : Int32) (ρ : Zs) (h : Hp), Rp A h σ ρ → fX14_check_22 x1  z0 ρ = some (.error v, ρ') → wp x mX14_check 22 [(0, .ref (A 14 0 0)), (1, .int x1)] [.int z0, .ref (A 14 0 0)] h 0 0 := by
  intro z0 ρ h hz hr
  rw [fX14_check_22.eq_1] at hr
  refine w_iconst 4 dX14_check_22 rfl rfl ?_
  refine w_iload_n 1 dX14_check_23 rfl rfl rfl ?_
  obtain ⟨v8, ρ9, e10, hr⟩ := bw_some hr
  rcases v8 with w12e | w12
  · obtain ⟨rfl, rfl⟩ := rete (bw_er hr)
    refine c_X14_277 (As := [.int z0, .int 4, .int x1]) (rest := []) (fun l => e_X14_must  hz e10 l) hrm dX14_check_24 rfl rfl (Nat.le_of_ble_eq_true rfl) (Nat.le_of_ble_eq_true rfl) (Nat.le_of_ble_eq_true rfl) (hz.o14 rfl) rfl (Nat.le_of_ble_eq_true rfl) (fun vr h2 hq => hq.elim) (fun E9 h9 hq => ?_)
    exact w_out hf (Nat.le_of_ble_eq_true rfl) (Nat.le_of_ble_eq_true rfl) hq
  have hr := bw_ok hr
  refine c_X14_277 (As := [.int z0, .int 4, .int x1]) (rest := []) (fun l => t_X14_must  hz e10 l) hrm dX14_check_24 rfl rfl (Nat.le_of_ble_eq_true rfl) (Nat.le_of_ble_eq_true rfl) (Nat.le_of_ble_eq_true rfl) (hz.o14 rfl) rfl (Nat.le_of_ble_eq_true rfl) (fun vr h2 hq => ?_) (fun E9 h9 hq => hq.elim)
  obtain ⟨rfl, hz⟩ := hq
  show wp _ _ 27 [(0, .ref (A 14 0 0)), (1, .int x1)] [] _ _ _
  refine w_aload_n 0 dX14_check_27 rfl rfl rfl ?_
  obtain ⟨v13, ρ14, e15, hr⟩ := bw_some hr
  rcases v13 with w17e | w17
  · obtain ⟨rfl, rfl⟩ := rete (bw_er hr)
    refine c_X14_344 (As := []) (rest := []) (fun l => e_X14_streamNamed  hz e15 l) hrm dX14_check_28 rfl rfl (Nat.le_of_ble_eq_true rfl) (Nat.le_of_ble_eq_true rfl) (Nat.le_of_ble_eq_true rfl) (hz.o14 rfl) rfl (Nat.le_of_ble_eq_true rfl) (fun vr h2 hq => hq.elim) (fun E9 h9 hq => ?_)
    exact w_out hf (Nat.le_of_ble_eq_true rfl) (Nat.le_of_ble_eq_true rfl) hq
  have hr := bw_ok hr
  refine c_X14_344 (As := []) (rest := []) (fun l => t_X14_streamNamed  hz e15 l) hrm dX14_check_28 rfl rfl (Nat.le_of_ble_eq_true rfl) (Nat.le_of_ble_eq_true rfl) (Nat.le_of_ble_eq_true rfl) (hz.o14 rfl) rfl (Nat.le_of_ble_eq_true rfl) (fun vr h2 hq => ?_) (fun E9 h9 hq => hq.elim)
  obtain ⟨rfl, hz⟩ := hq
  show wp _ _ 31 [(0, .ref (A 14 0 0)), (1, .int x1)] [.int w17] _ _ _
  refine w_istore_n [(2, .int w17), (0, .ref (A 14 0 0)), (1, .int x1)] dX14_check_31 rfl rfl (by decide) rfl ?_
  refine w_aload_n 1 dX14_check_32 rfl rfl rfl ?_
  refine w_bipush 103 dX14_check_33 rfl rfl ?_
  obtain ⟨v18, ρ19, e20, hr⟩ := bw_some hr
  rcases v18 with w22e | w22
  · obtain ⟨rfl, rfl⟩ := rete (bw_er hr)
    refine c_X14_284 (As := [.int 103]) (rest := []) (fun l => e_X14_take_  hz e20 l) hrm dX14_check_35 rfl rfl (Nat.le_of_ble_eq_true rfl) (Nat.le_of_ble_eq_true rfl) (Nat.le_of_ble_eq_true rfl) (hz.o14 rfl) rfl (Nat.le_of_ble_eq_true rfl) (fun vr h2 hq => hq.elim) (fun E9 h9 hq => ?_)
    exact w_out hf (Nat.le_of_ble_eq_true rfl) (Nat.le_of_ble_eq_true rfl) hq
  have hr := bw_ok hr
  refine c_X14_284 (As := [.int 103]) (rest := []) (fun l => t_X14_take_  hz e20 l) hrm dX14_check_35 rfl rfl (Nat.le_of_ble_eq_true rfl) (Nat.le_of_ble_eq_true rfl) (Nat.le_of_ble_eq_true rfl) (hz.o14 rfl) rfl (Nat.le_of_ble_eq_true rfl) (fun vr h2 hq => ?_) (fun E9 h9 hq => hq.elim)
  obtain ⟨rfl, hz⟩ := hq
  show wp _ _ 38 [(2, .int w17), (0, .ref (A 14 0 0)), (1, .int x1)] [] _ _ _
  refine w_aload_n 1 dX14_check_38 rfl rfl rfl ?_
  refine w_iload_n 0 dX14_check_39 rfl rfl rfl ?_
  refine p_X14_270 dX14_check_40 rfl (hz.o14 rfl) ?_
  obtain ⟨ρ23, e24, hr⟩ := lt_e hr
  have hz := (hz.s910 (v := w17) rfl).tr e24
  refine w_aload_n 1 dX14_check_43 rfl rfl rfl ?_
  obtain ⟨v25, ρ26, e27, hr⟩ := bw_some hr
  rcases v25 with w29e | w29
  · obtain ⟨rfl, rfl⟩ := rete (bw_er hr)
    refine c_X14_348 (As := []) (rest := []) (fun l => e_X14_whole  hz e27 l) hrm dX14_check_44 rfl rfl (Nat.le_of_ble_eq_true rfl) (Nat.le_of_ble_eq_true rfl) (Nat.le_of_ble_eq_true rfl) (hz.o14 rfl) rfl (Nat.le_of_ble_eq_true rfl) (fun vr h2 hq => hq.elim) (fun E9 h9 hq => ?_)
    exact w_out hf (Nat.le_of_ble_eq_true rfl) (Nat.le_of_ble_eq_true rfl) hq
  have hr := bw_ok hr
  refine c_X14_348 (As := []) (rest := []) (fun l => t_X14_whole  hz e27 l) hrm dX14_check_44 rfl rfl (Nat.le_of_ble_eq_true rfl) (Nat.le_of_ble_eq_true rfl) (Nat.le_of_ble_eq_true rfl) (hz.o14 rfl) rfl (Nat.le_of_ble_eq_true rfl) (fun vr h2 hq => ?_) (fun E9 h9 hq => hq.elim)
  obtain ⟨rfl, hz⟩ := hq
  show wp _ _ 47 [(2, .int w17), (0, .ref (A 14 0 0)), (1, .int x1)] [.int w29] _ _ _
  refine w_istore_n [(3, .int w29), (2, .int w17), (0, .ref (A 14 0 0)), (1, .int x1)] dX14_check_47 rfl rfl (by decide) rfl ?_
  refine w_aload_n 2 dX14_check_48 rfl rfl rfl ?_
  refine w_bipush 18 dX14_check_49 rfl rfl ?_
  obtain ⟨v30, ρ31, e32, hr⟩ := bw_some hr
  rcases v30 with w34e | w34
  · obtain ⟨rfl, rfl⟩ := rete (bw_er hr)
    refine c_X14_284 (As := [.int 18]) (rest := []) (fun l => e_X14_take_  hz e32 l) hrm dX14_check_51 rfl rfl (Nat.le_of_ble_eq_true rfl) (Nat.le_of_ble_eq_true rfl) (Nat.le_of_ble_eq_true rfl) (hz.o14 rfl) rfl (Nat.le_of_ble_eq_true rfl) (fun vr h2 hq => hq.elim) (fun E9 h9 hq => ?_)
    exact w_out hf (Nat.le_of_ble_eq_true rfl) (Nat.le_of_ble_eq_true rfl) hq
  have hr := bw_ok hr
  refine c_X14_284 (As := [.int 18]) (rest := []) (fun l => t_X14_take_  hz e32 l) hrm dX14_check_51 rfl rfl (Nat.le_of_ble_eq_true rfl) (Nat.le_of_ble_eq_true rfl) (Nat.le_of_ble_eq_true rfl) (hz.o14 rfl) rfl (Nat.le_of_ble_eq_true rfl) (fun vr h2 hq => ?_) (fun E9 h9 hq => hq.elim)
  obtain ⟨rfl, hz⟩ := hq
  show wp _ _ 54 [(3, .int w29), (2, .int w17), (0, .ref (A 14 0 0)), (1, .int x1)] [] _ _ _
  refine w_aload_n 2 dX14_check_54 rfl rfl rfl ?_
  refine g_X14_24 dX14_check_55 rfl (hz.o14 rfl) (hz.r902 rfl) ?_
  refine w_aload_n 2 dX14_check_58 rfl rfl rfl ?_
  refine g_X14_204 dX14_check_59 rfl (hz.o14 rfl) (hz.i905 rfl) ?_
  obtain ⟨g35, hr⟩ := gd hr
  refine w_iald dX14_check_62 rfl (hz.k902 rfl) (gin (hz.n902 rfl) g35) (hz.x902 rfl) ?_
  refine w_i2l dX14_check_63 rfl ?_
  refine w_ldc2 dX14_check_64 rfl k_X14_351 ?_
  refine w_ldc2 dX14_check_67 rfl k_X14_353 ?_
  obtain ⟨v36, ρ37, e38, hr⟩ := bq_some hr
  refine c_X14_163 (b := 0) (As := [.long (((zI ρ31 1926 0 0 (Int32.toNatClampNeg (zI ρ31 905 0 0 0))) : Int32).toInt64), .long 19, .long 21]) (rest := []) (fun l => s_X14_isIn  hz e38 l) hrm dX14_check_70 rfl rfl (Nat.le_of_ble_eq_true rfl) (Nat.le_of_ble_eq_true rfl) (Nat.le_of_ble_eq_true rfl) rfl (Nat.le_of_ble_eq_true rfl) (fun vr h2 hq => ?_) (fun E9 h9 hq => hq.elim)
  obtain ⟨rfl, hz⟩ := hq
  show wp _ _ 73 [(3, .int w29), (2, .int w17), (0, .ref (A 14 0 0)), (1, .int x1)] [.int v36] _ _ _
  refine w_if_ne 81 dX14_check_73 rfl rfl (fun q73 => ?_) (fun q73 => ?_)
  · have hr := bf q73 hr
    refine w_aload_n 2 dX14_check_81 rfl rfl rfl ?_
    refine g_X14_24 dX14_check_82 rfl (hz.o14 rfl) (hz.r902 rfl) ?_
    refine w_aload_n 2 dX14_check_85 rfl rfl rfl ?_
    refine g_X14_204 dX14_check_86 rfl (hz.o14 rfl) (hz.i905 rfl) ?_
    obtain ⟨g40, hr⟩ := gd hr
    refine w_iald dX14_check_89 rfl (hz.k902 rfl) (gin (hz.n902 rfl) g40) (hz.x902 rfl) ?_
    refine w_istore [(4, .int (zI ρ37 1926 0 0 (Int32.toNatClampNeg (zI ρ37 905 0 0 0)))), (3, .int w29), (2, .int w17), (0, .ref (A 14 0 0)), (1, .int x1)] dX14_check_90 rfl (by decide) rfl ?_
    refine w_aload_n 3 dX14_check_92 rfl rfl rfl ?_
    obtain ⟨v41, ρ42, e43, hr⟩ := bw_some hr
    rcases v41 with w45e | w45
    · obtain ⟨rfl, rfl⟩ := rete (bw_er hr)
      refine c_X14_226 (As := []) (rest := []) (fun l => e_X14_take  hz e43 l) hrm dX14_check_93 rfl rfl (Nat.le_of_ble_eq_true rfl) (Nat.le_of_ble_eq_true rfl) (Nat.le_of_ble_eq_true rfl) (hz.o14 rfl) rfl (Nat.le_of_ble_eq_true rfl) (fun vr h2 hq => hq.elim) (fun E9 h9 hq => ?_)
      exact w_out hf (Nat.le_of_ble_eq_true rfl) (Nat.le_of_ble_eq_true rfl) hq
    have hr := bw_ok hr
    refine c_X14_226 (As := []) (rest := []) (fun l => t_X14_take  hz e43 l) hrm dX14_check_93 rfl rfl (Nat.le_of_ble_eq_true rfl) (Nat.le_of_ble_eq_true rfl) (Nat.le_of_ble_eq_true rfl) (hz.o14 rfl) rfl (Nat.le_of_ble_eq_true rfl) (fun vr h2 hq => ?_) (fun E9 h9 hq => hq.elim)
    obtain ⟨rfl, hz⟩ := hq
    show wp _ _ 96 [(4, .int (zI ρ37 1926 0 0 (Int32.toNatClampNeg (zI ρ37 905 0 0 0)))), (3, .int w29), (2, .int w17), (0, .ref (A 14 0 0)), (1, .int x1)] [] _ _ _
    refine w_aload_n 3 dX14_check_96 rfl rfl rfl ?_
    refine g_X14_212 dX14_check_97 rfl (hz.o14 rfl) (hz.i906 rfl) ?_
    refine w_if_ne 104 dX14_check_100 rfl rfl (fun q100 => ?_) (fun q100 => ?_)
    · have hr := bf q100 hr
      refine w_aload_n 3 dX14_check_104 rfl rfl rfl ?_
      obtain ⟨g47, hr⟩ := gd hr
      have hv46 := hz.ww909 (p := 0) (s := 0) rfl g47
      refine g_X14_232 dX14_check_105 rfl (hz.o14 rfl) (hz.rr909 rfl g47) ?_
      refine g_X14_355 dX14_check_108 rfl (hz.o12 hv46) (hz.r782 hv46) ?_
      refine w_aload_n 3 dX14_check_111 rfl rfl rfl ?_
      obtain ⟨g49, hr⟩ := gd hr
      have hv48 := hz.ww909 (p := 0) (s := 0) rfl g49
      refine g_X14_232 dX14_check_112 rfl (hz.o14 rfl) (hz.rr909 rfl g49) ?_
      refine g_X14_341 dX14_check_115 rfl (hz.o12 hv48) (hz.i781 hv48) ?_
      refine w_iload_n 2 dX14_check_118 rfl rfl rfl ?_
      obtain ⟨g50, hr⟩ := gd hr
      refine w_iast dX14_check_119 rfl (hz.k782 hv46) (gin (hz.n782 hv46) g50) ?_
      obtain ⟨ρ51, e52, hr⟩ := lt_e hr
      have hz := (hz.s782 (i := (Int32.toNatClampNeg (zI ρ42 781 ((zR ρ42 909 0 0 0).1) 0 0))) (v := w17) hv46).tr e52
      refine w_aload_n 3 dX14_check_120 rfl rfl rfl ?_
      obtain ⟨g54, hr⟩ := gd hr
      have hv53 := hz.ww909 (p := 0) (s := 0) rfl g54
      refine g_X14_232 dX14_check_121 rfl (hz.o14 rfl) (hz.rr909 rfl g54) ?_
      refine g_X14_358 dX14_check_124 rfl (hz.o12 hv53) (hz.r783 hv53) ?_
      refine w_aload_n 3 dX14_check_127 rfl rfl rfl ?_
      obtain ⟨g56, hr⟩ := gd hr
      have hv55 := hz.ww909 (p := 0) (s := 0) rfl g56
      refine g_X14_232 dX14_check_128 rfl (hz.o14 rfl) (hz.rr909 rfl g56) ?_
      refine g_X14_341 dX14_check_131 rfl (hz.o12 hv55) (hz.i781 hv55) ?_
      refine w_iload_n 1 dX14_check_134 rfl rfl rfl ?_
      obtain ⟨g57, hr⟩ := gd hr
      refine w_iast dX14_check_135 rfl (hz.k783 hv53) (gin (hz.n783 hv53) g57) ?_
      obtain ⟨ρ58, e59, hr⟩ := lt_e hr
      have hz := (hz.s783 (i := (Int32.toNatClampNeg (zI ρ51 781 ((zR ρ51 909 0 0 0).1) 0 0))) (v := w29) hv53).tr e59
      refine w_aload_n 3 dX14_check_136 rfl rfl rfl ?_
      obtain ⟨g61, hr⟩ := gd hr
      have hv60 := hz.ww909 (p := 0) (s := 0) rfl g61
      refine g_X14_232 dX14_check_137 rfl (hz.o14 rfl) (hz.rr909 rfl g61) ?_
      refine g_X14_361 dX14_check_140 rfl (hz.o12 hv60) (hz.r784 hv60) ?_
      refine w_aload_n 3 dX14_check_143 rfl rfl rfl ?_
      obtain ⟨g63, hr⟩ := gd hr
      have hv62 := hz.ww909 (p := 0) (s := 0) rfl g63
      refine g_X14_232 dX14_check_144 rfl (hz.o14 rfl) (hz.rr909 rfl g63) ?_
      refine g_X14_341 dX14_check_147 rfl (hz.o12 hv62) (hz.i781 hv62) ?_
      refine w_iload 0 dX14_check_150 rfl rfl ?_
      obtain ⟨g64, hr⟩ := gd hr
      refine w_iast dX14_check_152 rfl (hz.k784 hv60) (gin (hz.n784 hv60) g64) ?_
      obtain ⟨ρ65, e66, hr⟩ := lt_e hr
      have hz := (hz.s784 (i := (Int32.toNatClampNeg (zI ρ58 781 ((zR ρ58 909 0 0 0).1) 0 0))) (v := (zI ρ37 1926 0 0 (Int32.toNatClampNeg (zI ρ37 905 0 0 0)))) hv60).tr e66
      refine w_aload_n 3 dX14_check_153 rfl rfl rfl ?_
      obtain ⟨g68, hr⟩ := gd hr
      have hv67 := hz.ww909 (p := 0) (s := 0) rfl g68
      refine g_X14_232 dX14_check_154 rfl (hz.o14 rfl) (hz.rr909 rfl g68) ?_
      refine w_dup dX14_check_157 rfl rfl ?_
      refine g_X14_341 dX14_check_158 rfl (hz.o12 hv67) (hz.i781 hv67) ?_
      refine w_iconst 1 dX14_check_161 rfl rfl ?_
      refine w_iadd dX14_check_162 rfl ?_
      refine p_X14_341 dX14_check_163 rfl (hz.o12 hv67) ?_
      obtain ⟨ρ69, e70, hr⟩ := lt_e hr
      have hz := (hz.s781 (v := ((zI ρ65 781 ((zR ρ65 909 0 0 0).1) 0 0) + 1)) hv67).tr e70
      exact noek hr
    · have hr := bt q100 hr
      exact noek hr
  · have hr := bt q73 hr
    refine w_aload_n 2 dX14_check_76 rfl rfl rfl ?_
    obtain ⟨w71, ρ72, e73, hr⟩ := bq_some hr
    refine c_X14_219 (As := []) (rest := []) (fun l => s_X14_wrong hz e73 l) hrm dX14_check_77 rfl rfl (Nat.le_of_ble_eq_true rfl) (Nat.le_of_ble_eq_true rfl) (Nat.le_of_ble_eq_true rfl) (hz.o14 rfl) rfl (Nat.le_of_ble_eq_true rfl) (fun vr h2 hq => ?_) (fun E9 h9 hq => hq.elim)
    obtain ⟨q, rfl, hq⟩ := hq
    obtain ⟨rfl, rfl⟩ := rete hr
    show wp _ _ 80 [(3, .int w29), (2, .int w17), (0, .ref (A 14 0 0)), (1, .int x1)] [.ref q] _ _ _
    refine w_athrow dX14_check_80 (q := q) hq.1 ?_
    exact w_out hf (Nat.le_of_ble_eq_true rfl) (Nat.le_of_ble_eq_true rfl) hq.gh
set_option maxRecDepth 20000 in
set_option maxHeartbeats 4000000 in
theorem e_X14_check {A : Nat → Nat → Nat → Nat} {h : Hp} {σ ρ ρ' : Zs} {v : Int32 × Int32} {x1 : Int32}  (hz : Rp A h σ ρ) (hr : fX14_check x1 ρ = some (.error v, ρ')) : ∀ l : Launch, Sp l mX14_check 97 1 8 [.ref (A 14 0 0), .int x1] h QF (XW A v σ ρ') := by
  intro l
  refine Sp.of rfl rfl (lv := [(0, .ref (A 14 0 0)), (1, .int x1)]) (Nat.le_of_ble_eq_true rfl) rfl (fun x hf hrm => ?_)
  rw [fX14_check.eq_1] at hr
  refine w_aload_n 0 dX14_check_0 rfl rfl rfl ?_
  obtain ⟨v1, ρ2, e3, hr⟩ := bw_some hr
  rcases v1 with w5e | w5
  · obtain ⟨rfl, rfl⟩ := rete (bw_er hr)
    refine c_X14_226 (As := []) (rest := []) (fun l => e_X14_take  hz e3 l) hrm dX14_check_1 rfl rfl (Nat.le_of_ble_eq_true rfl) (Nat.le_of_ble_eq_true rfl) (Nat.le_of_ble_eq_true rfl) (hz.o14 rfl) rfl (Nat.le_of_ble_eq_true rfl) (fun vr h2 hq => hq.elim) (fun E9 h9 hq => ?_)
    exact w_out hf (Nat.le_of_ble_eq_true rfl) (Nat.le_of_ble_eq_true rfl) hq
  have hr := bw_ok hr
  refine c_X14_226 (As := []) (rest := []) (fun l => t_X14_take  hz e3 l) hrm dX14_check_1 rfl rfl (Nat.le_of_ble_eq_true rfl) (Nat.le_of_ble_eq_true rfl) (Nat.le_of_ble_eq_true rfl) (hz.o14 rfl) rfl (Nat.le_of_ble_eq_true rfl) (fun vr h2 hq => ?_) (fun E9 h9 hq => hq.elim)
  obtain ⟨rfl, hz⟩ := hq
  show wp _ _ 4 [(0, .ref (A 14 0 0)), (1, .int x1)] [] _ _ _
  refine w_aload_n 0 dX14_check_4 rfl rfl rfl ?_
  refine w_aload_n 0 dX14_check_5 rfl rfl rfl ?_
  obtain ⟨g7, hr⟩ := gd hr
  have hv6 := hz.ww909 (p := 0) (s := 0) rfl g7
  refine g_X14_232 dX14_check_6 rfl (hz.o14 rfl) (hz.rr909 rfl g7) ?_
  refine g_X14_341 dX14_check_9 rfl (hz.o12 hv6) (hz.i781 hv6) ?_
  refine w_bipush 8 dX14_check_12 rfl rfl ?_
  refine w_icmp_ge 21 dX14_check_14 rfl rfl (fun q14 => ?_) (fun q14 => ?_)
  · have hr := bt q14 hr
    refine w_iconst 0 dX14_check_21 rfl rfl ?_
    refine w_lv [(0, .ref (A 14 0 0)), (1, .int x1)] [0, 1] rfl ?_
    exact x_X14_check_22 hf hrm   0 _ _ hz  hr
  · have hr := bf q14 hr
    refine w_iconst 1 dX14_check_17 rfl rfl ?_
    refine w_goto 22 dX14_check_18 rfl ?_
    refine w_lv [(0, .ref (A 14 0 0)), (1, .int x1)] [0, 1] rfl ?_
    exact x_X14_check_22 hf hrm   1 _ _ hz  hr

set_option maxRecDepth 20000 in
set_option maxHeartbeats 4000000 in
theorem u_X14_work_333 {A : Nat → Nat → Nat → Nat} {σ ρ' : Zs} {v : Unit} {x : Cxt} {x1 : Int32}  (hf : m_fin 1 7 (QV A v σ ρ') X0 x) (hrm : m_rm 99 1 7 x)  : ∀ (n : Nat) (y3 : Int32) (y6 : Int32) (y7 : Int32) (y8 : Int32) (ρ : Zs) (h : Hp), Rp A h σ ρ → fX14_work_333 x1  n y3 y6 y7 y8 ρ = some (.ok v, ρ') → wp x mX14_work 333 [(0, .ref (A 14 0 0)), (1, .int x1), (3, .int y3), (6, .int y6), (7, .int y7), (8, .int y8)] [] h 1 7
  | 0, _, _, _, _, ρ, h => fun hz hr => by
    rw [fX14_work_333.eq_1] at hr
    exact nono hr
  | n + 1, y3, y6, y7, y8, ρ, h => fun hz hr => by
    rw [fX14_work_333.eq_2] at hr
    refine w_iload 5 dX14_work_333 rfl rfl ?_
    refine w_aload_n 0 dX14_work_335 rfl rfl rfl ?_
    obtain ⟨g94, hr⟩ := gd hr
    have hv93 := hz.ww909 (p := 0) (s := 0) rfl g94
    refine g_X14_232 dX14_work_336 rfl (hz.o14 rfl) (hz.rr909 rfl g94) ?_
    refine g_X14_292 dX14_work_339 rfl (hz.o12 hv93) (hz.r771 hv93) ?_
    refine w_iload 3 dX14_work_342 rfl rfl ?_
    obtain ⟨g95, hr⟩ := gd hr
    refine w_iald dX14_work_344 rfl (hz.k771 hv93) (gin (hz.n771 hv93) g95) (hz.x771 hv93) ?_
    refine w_icmp_ge 409 dX14_work_345 rfl rfl (fun q345 => ?_) (fun q345 => ?_)
    · have hr := bt q345 hr
      refine w_aload_n 0 dX14_work_409 rfl rfl rfl ?_
      refine w_iload 4 dX14_work_410 rfl rfl ?_
      refine w_iconst 3 dX14_work_412 rfl rfl ?_
      refine w_iload_n 2 dX14_work_413 rfl rfl rfl ?_
      obtain ⟨v96, ρ97, e98, hr⟩ := bw_some hr
      rcases v96 with w100e | w100
      · exact noko (bw_er hr)
      have hr := bw_ok hr
      refine c_X14_277 (As := [.int y7, .int 3, .int y3]) (rest := []) (fun l => t_X14_must  hz e98 l) hrm dX14_work_414 rfl rfl (Nat.le_of_ble_eq_true rfl) (Nat.le_of_ble_eq_true rfl) (Nat.le_of_ble_eq_true rfl) (hz.o14 rfl) rfl (Nat.le_of_ble_eq_true rfl) (fun vr h2 hq => ?_) (fun E9 h9 hq => hq.elim)
      obtain ⟨rfl, hz⟩ := hq
      show wp _ _ 417 [(0, .ref (A 14 0 0)), (1, .int x1), (3, .int y3), (6, .int y6), (7, .int y7), (8, .int y8)] [] _ _ _
      refine w_aload_n 0 dX14_work_417 rfl rfl rfl ?_
      refine w_iload 3 dX14_work_418 rfl rfl ?_
      refine w_iconst (-1) dX14_work_420 rfl rfl ?_
      obtain ⟨v101, ρ102, e103, hr⟩ := bq_some hr
      refine c_X14_375 (As := [.int y6, .int (-1)]) (rest := []) (fun l => s_X14_sayAll  hz e103 l) hrm dX14_work_421 rfl rfl (Nat.le_of_ble_eq_true rfl) (Nat.le_of_ble_eq_true rfl) (Nat.le_of_ble_eq_true rfl) (hz.o14 rfl) rfl (Nat.le_of_ble_eq_true rfl) (fun vr h2 hq => ?_) (fun E9 h9 hq => hq.elim)
      obtain ⟨rfl, hz⟩ := hq
      show wp _ _ 424 [(0, .ref (A 14 0 0)), (1, .int x1), (3, .int y3), (6, .int y6), (7, .int y7), (8, .int y8)] [] _ _ _
      refine w_goto 507 dX14_work_424 rfl ?_
      refine w_vret hf dX14_work_507 rfl (Nat.le_of_ble_eq_true rfl) (Nat.le_of_ble_eq_true rfl) ?_
      obtain ⟨rfl, rfl⟩ := retw hr
      exact ⟨rfl, hz⟩
    · have hr := bf q345 hr
      refine w_iload 4 dX14_work_348 rfl rfl ?_
      refine w_if_eq 409 dX14_work_350 rfl rfl (fun q350 => ?_) (fun q350 => ?_)
      · have hr := bt q350 hr
        refine w_aload_n 0 dX14_work_409 rfl rfl rfl ?_
        refine w_iload 4 dX14_work_410 rfl rfl ?_
        refine w_iconst 3 dX14_work_412 rfl rfl ?_
        refine w_iload_n 2 dX14_work_413 rfl rfl rfl ?_
        obtain ⟨v105, ρ106, e107, hr⟩ := bw_some hr
        rcases v105 with w109e | w109
        · exact noko (bw_er hr)
        have hr := bw_ok hr
        refine c_X14_277 (As := [.int y7, .int 3, .int y3]) (rest := []) (fun l => t_X14_must  hz e107 l) hrm dX14_work_414 rfl rfl (Nat.le_of_ble_eq_true rfl) (Nat.le_of_ble_eq_true rfl) (Nat.le_of_ble_eq_true rfl) (hz.o14 rfl) rfl (Nat.le_of_ble_eq_true rfl) (fun vr h2 hq => ?_) (fun E9 h9 hq => hq.elim)
        obtain ⟨rfl, hz⟩ := hq
        show wp _ _ 417 [(0, .ref (A 14 0 0)), (1, .int x1), (3, .int y3), (6, .int y6), (7, .int y7), (8, .int y8)] [] _ _ _
        refine w_aload_n 0 dX14_work_417 rfl rfl rfl ?_
        refine w_iload 3 dX14_work_418 rfl rfl ?_
        refine w_iconst (-1) dX14_work_420 rfl rfl ?_
        obtain ⟨v110, ρ111, e112, hr⟩ := bq_some hr
        refine c_X14_375 (As := [.int y6, .int (-1)]) (rest := []) (fun l => s_X14_sayAll  hz e112 l) hrm dX14_work_421 rfl rfl (Nat.le_of_ble_eq_true rfl) (Nat.le_of_ble_eq_true rfl) (Nat.le_of_ble_eq_true rfl) (hz.o14 rfl) rfl (Nat.le_of_ble_eq_true rfl) (fun vr h2 hq => ?_) (fun E9 h9 hq => hq.elim)
        obtain ⟨rfl, hz⟩ := hq
        show wp _ _ 424 [(0, .ref (A 14 0 0)), (1, .int x1), (3, .int y3), (6, .int y6), (7, .int y7), (8, .int y8)] [] _ _ _
        refine w_goto 507 dX14_work_424 rfl ?_
        refine w_vret hf dX14_work_507 rfl (Nat.le_of_ble_eq_true rfl) (Nat.le_of_ble_eq_true rfl) ?_
        obtain ⟨rfl, rfl⟩ := retw hr
        exact ⟨rfl, hz⟩
      · have hr := bf q350 hr
        refine w_aload_n 0 dX14_work_353 rfl rfl rfl ?_
        obtain ⟨g115, hr⟩ := gd hr
        have hv114 := hz.ww909 (p := 0) (s := 0) rfl g115
        refine g_X14_232 dX14_work_354 rfl (hz.o14 rfl) (hz.rr909 rfl g115) ?_
        refine g_X14_289 dX14_work_357 rfl (hz.o12 hv114) (hz.r772 hv114) ?_
        refine w_bipush 6 dX14_work_360 rfl rfl ?_
        refine w_iload 3 dX14_work_362 rfl rfl ?_
        refine w_imul dX14_work_364 rfl ?_
        refine w_iload 5 dX14_work_365 rfl rfl ?_
        refine w_iadd dX14_work_367 rfl ?_
        obtain ⟨g116, hr⟩ := gd hr
        refine w_lald dX14_work_368 rfl (hz.k772 hv114) (gin (hz.n772 hv114) g116) (hz.x772 hv114) ?_
        refine w_aload_n 0 dX14_work_369 rfl rfl rfl ?_
        obtain ⟨g118, hr⟩ := gd hr
        have hv117 := hz.ww909 (p := 0) (s := 0) rfl g118
        refine g_X14_232 dX14_work_370 rfl (hz.o14 rfl) (hz.rr909 rfl g118) ?_
        refine g_X14_289 dX14_work_373 rfl (hz.o12 hv117) (hz.r772 hv117) ?_
        refine w_bipush 6 dX14_work_376 rfl rfl ?_
        refine w_aload_n 0 dX14_work_378 rfl rfl rfl ?_
        obtain ⟨g120, hr⟩ := gd hr
        have hv119 := hz.ww909 (p := 0) (s := 0) rfl g120
        refine g_X14_232 dX14_work_379 rfl (hz.o14 rfl) (hz.rr909 rfl g120) ?_
        refine g_X14_326 dX14_work_382 rfl (hz.o12 hv119) (hz.r774 hv119) ?_
        refine w_iload_n 1 dX14_work_385 rfl rfl rfl ?_
        obtain ⟨g121, hr⟩ := gd hr
        refine w_iald dX14_work_386 rfl (hz.k774 hv119) (gin (hz.n774 hv119) g121) (hz.x774 hv119) ?_
        refine w_imul dX14_work_387 rfl ?_
        refine w_iload 5 dX14_work_388 rfl rfl ?_
        refine w_iadd dX14_work_390 rfl ?_
        obtain ⟨g122, hr⟩ := gd hr
        refine w_lald dX14_work_391 rfl (hz.k772 hv117) (gin (hz.n772 hv117) g122) (hz.x772 hv117) ?_
        refine w_lcmp dX14_work_392 rfl ?_
        refine w_if_ne 400 dX14_work_393 rfl rfl (fun q393 => ?_) (fun q393 => ?_)
        · have hr := bf q393 hr
          refine w_iconst 0 dX14_work_400 rfl rfl ?_
          refine w_istore [(7, .int 0), (0, .ref (A 14 0 0)), (1, .int x1), (3, .int y3), (6, .int y6), (8, .int y8)] dX14_work_401 rfl (by decide) rfl ?_
          refine w_iinc 5 (y8 + 1) [(8, .int (y8 + 1)), (7, .int 0), (0, .ref (A 14 0 0)), (1, .int x1), (3, .int y3), (6, .int y6)] dX14_work_403 rfl rfl rfl (by decide) rfl ?_
          refine w_goto 333 dX14_work_406 rfl ?_
          refine w_lv [(0, .ref (A 14 0 0)), (1, .int x1), (3, .int y3), (6, .int y6), (7, .int 0), (8, .int (y8 + 1))] [2, 3, 4, 5, 1, 0] rfl ?_
          exact u_X14_work_333 hf hrm   n y3 y6 0 (y8 + 1) _ _ hz  hr
        · have hr := bt q393 hr
          refine w_iconst 1 dX14_work_396 rfl rfl ?_
          refine w_goto 401 dX14_work_397 rfl ?_
          refine w_istore [(7, .int 1), (0, .ref (A 14 0 0)), (1, .int x1), (3, .int y3), (6, .int y6), (8, .int y8)] dX14_work_401 rfl (by decide) rfl ?_
          refine w_iinc 5 (y8 + 1) [(8, .int (y8 + 1)), (7, .int 1), (0, .ref (A 14 0 0)), (1, .int x1), (3, .int y3), (6, .int y6)] dX14_work_403 rfl rfl rfl (by decide) rfl ?_
          refine w_goto 333 dX14_work_406 rfl ?_
          refine w_lv [(0, .ref (A 14 0 0)), (1, .int x1), (3, .int y3), (6, .int y6), (7, .int 1), (8, .int (y8 + 1))] [2, 3, 4, 5, 1, 0] rfl ?_
          exact u_X14_work_333 hf hrm   n y3 y6 1 (y8 + 1) _ _ hz  hr
set_option maxRecDepth 20000 in
set_option maxHeartbeats 4000000 in
theorem u_X14_work_237 {A : Nat → Nat → Nat → Nat} {σ ρ' : Zs} {v : Unit} {x : Cxt} {x1 : Int32}  (hf : m_fin 1 7 (QV A v σ ρ') X0 x) (hrm : m_rm 99 1 7 x)  : ∀ (n : Nat) (y6 : Int32) (ρ : Zs) (h : Hp), Rp A h σ ρ → fX14_work_237 x1  n y6 ρ = some (.ok v, ρ') → wp x mX14_work 237 [(0, .ref (A 14 0 0)), (1, .int x1), (6, .int y6)] [] h 1 7
  | 0, _, ρ, h => fun hz hr => by
    rw [fX14_work_237.eq_1] at hr
    exact nono hr
  | n + 1, y6, ρ, h => fun hz hr => by
    rw [fX14_work_237.eq_2] at hr
    refine w_aload_n 0 dX14_work_237 rfl rfl rfl ?_
    refine w_bipush 102 dX14_work_238 rfl rfl ?_
    obtain ⟨v133, ρ134, e135, hr⟩ := bq_some hr
    refine c_X14_223 (As := [.int 102]) (rest := []) (fun l => s_X14_is  hz e135 l) hrm dX14_work_240 rfl rfl (Nat.le_of_ble_eq_true rfl) (Nat.le_of_ble_eq_true rfl) (Nat.le_of_ble_eq_true rfl) (hz.o14 rfl) rfl (Nat.le_of_ble_eq_true rfl) (fun vr h2 hq => ?_) (fun E9 h9 hq => hq.elim)
    obtain ⟨rfl, hz⟩ := hq
    show wp _ _ 243 [(0, .ref (A 14 0 0)), (1, .int x1), (6, .int y6)] [.int v133] _ _ _
    refine w_if_eq 259 dX14_work_243 rfl rfl (fun q243 => ?_) (fun q243 => ?_)
    · have hr := bt q243 hr
      refine w_aload_n 0 dX14_work_259 rfl rfl rfl ?_
      refine w_bipush 101 dX14_work_260 rfl rfl ?_
      obtain ⟨v137, ρ138, e139, hr⟩ := bw_some hr
      rcases v137 with w141e | w141
      · exact noko (bw_er hr)
      have hr := bw_ok hr
      refine c_X14_284 (As := [.int 101]) (rest := []) (fun l => t_X14_take_  hz e139 l) hrm dX14_work_262 rfl rfl (Nat.le_of_ble_eq_true rfl) (Nat.le_of_ble_eq_true rfl) (Nat.le_of_ble_eq_true rfl) (hz.o14 rfl) rfl (Nat.le_of_ble_eq_true rfl) (fun vr h2 hq => ?_) (fun E9 h9 hq => hq.elim)
      obtain ⟨rfl, hz⟩ := hq
      show wp _ _ 265 [(0, .ref (A 14 0 0)), (1, .int x1), (6, .int y6)] [] _ _ _
      refine w_goto 507 dX14_work_265 rfl ?_
      refine w_vret hf dX14_work_507 rfl (Nat.le_of_ble_eq_true rfl) (Nat.le_of_ble_eq_true rfl) ?_
      obtain ⟨rfl, rfl⟩ := retw hr
      exact ⟨rfl, hz⟩
    · have hr := bf q243 hr
      refine w_aload_n 0 dX14_work_246 rfl rfl rfl ?_
      obtain ⟨v142, ρ143, e144, hr⟩ := bw_some hr
      rcases v142 with w146e | w146
      · exact noko (bw_er hr)
      have hr := bw_ok hr
      refine c_X14_226 (As := []) (rest := []) (fun l => t_X14_take  hz e144 l) hrm dX14_work_247 rfl rfl (Nat.le_of_ble_eq_true rfl) (Nat.le_of_ble_eq_true rfl) (Nat.le_of_ble_eq_true rfl) (hz.o14 rfl) rfl (Nat.le_of_ble_eq_true rfl) (fun vr h2 hq => ?_) (fun E9 h9 hq => hq.elim)
      obtain ⟨rfl, hz⟩ := hq
      show wp _ _ 250 [(0, .ref (A 14 0 0)), (1, .int x1), (6, .int y6)] [] _ _ _
      refine w_aload_n 0 dX14_work_250 rfl rfl rfl ?_
      refine w_iload 2 dX14_work_251 rfl rfl ?_
      obtain ⟨v147, ρ148, e149, hr⟩ := bw_some hr
      rcases v147 with w151e | w151
      · exact noko (bw_er hr)
      have hr := bw_ok hr
      refine c_X14_381 (As := [.int y6]) (rest := []) (fun l => t_X14_pickOne  hz e149 l) hrm dX14_work_253 rfl rfl (Nat.le_of_ble_eq_true rfl) (Nat.le_of_ble_eq_true rfl) (Nat.le_of_ble_eq_true rfl) (hz.o14 rfl) rfl (Nat.le_of_ble_eq_true rfl) (fun vr h2 hq => ?_) (fun E9 h9 hq => hq.elim)
      obtain ⟨rfl, hz⟩ := hq
      show wp _ _ 256 [(0, .ref (A 14 0 0)), (1, .int x1), (6, .int y6)] [] _ _ _
      refine w_goto 237 dX14_work_256 rfl ?_
      refine w_lv [(0, .ref (A 14 0 0)), (1, .int x1), (6, .int y6)] [0, 1, 2] rfl ?_
      exact u_X14_work_237 hf hrm   n y6 _ _ hz  hr
set_option maxRecDepth 20000 in
set_option maxHeartbeats 4000000 in
theorem u_X14_work_199 {A : Nat → Nat → Nat → Nat} {σ ρ' : Zs} {v : Unit} {x : Cxt} {x1 : Int32}  (hf : m_fin 1 7 (QV A v σ ρ') X0 x) (hrm : m_rm 99 1 7 x)  : ∀ (n : Nat) (ρ : Zs) (h : Hp), Rp A h σ ρ → fX14_work_199 x1  n  ρ = some (.ok v, ρ') → wp x mX14_work 199 [(0, .ref (A 14 0 0)), (1, .int x1)] [] h 1 7
  | 0, ρ, h => fun hz hr => by
    rw [fX14_work_199.eq_1] at hr
    exact nono hr
  | n + 1, ρ, h => fun hz hr => by
    rw [fX14_work_199.eq_2] at hr
    refine w_aload_n 0 dX14_work_199 rfl rfl rfl ?_
    refine w_bipush 102 dX14_work_200 rfl rfl ?_
    obtain ⟨v166, ρ167, e168, hr⟩ := bq_some hr
    refine c_X14_223 (As := [.int 102]) (rest := []) (fun l => s_X14_is  hz e168 l) hrm dX14_work_202 rfl rfl (Nat.le_of_ble_eq_true rfl) (Nat.le_of_ble_eq_true rfl) (Nat.le_of_ble_eq_true rfl) (hz.o14 rfl) rfl (Nat.le_of_ble_eq_true rfl) (fun vr h2 hq => ?_) (fun E9 h9 hq => hq.elim)
    obtain ⟨rfl, hz⟩ := hq
    show wp _ _ 205 [(0, .ref (A 14 0 0)), (1, .int x1)] [.int v166] _ _ _
    refine w_if_eq 507 dX14_work_205 rfl rfl (fun q205 => ?_) (fun q205 => ?_)
    · have hr := bt q205 hr
      refine w_vret hf dX14_work_507 rfl (Nat.le_of_ble_eq_true rfl) (Nat.le_of_ble_eq_true rfl) ?_
      obtain ⟨rfl, rfl⟩ := retw hr
      exact ⟨rfl, hz⟩
    · have hr := bf q205 hr
      refine w_aload_n 0 dX14_work_208 rfl rfl rfl ?_
      obtain ⟨v170, ρ171, e172, hr⟩ := bw_some hr
      rcases v170 with w174e | w174
      · exact noko (bw_er hr)
      have hr := bw_ok hr
      refine c_X14_226 (As := []) (rest := []) (fun l => t_X14_take  hz e172 l) hrm dX14_work_209 rfl rfl (Nat.le_of_ble_eq_true rfl) (Nat.le_of_ble_eq_true rfl) (Nat.le_of_ble_eq_true rfl) (hz.o14 rfl) rfl (Nat.le_of_ble_eq_true rfl) (fun vr h2 hq => ?_) (fun E9 h9 hq => hq.elim)
      obtain ⟨rfl, hz⟩ := hq
      show wp _ _ 212 [(0, .ref (A 14 0 0)), (1, .int x1)] [] _ _ _
      refine w_aload_n 0 dX14_work_212 rfl rfl rfl ?_
      obtain ⟨v175, ρ176, e177, hr⟩ := bw_some hr
      rcases v175 with w179e | w179
      · exact noko (bw_er hr)
      have hr := bw_ok hr
      refine c_X14_378 (As := []) (rest := []) (fun l => t_X14_makeOne  hz e177 l) hrm dX14_work_213 rfl rfl (Nat.le_of_ble_eq_true rfl) (Nat.le_of_ble_eq_true rfl) (Nat.le_of_ble_eq_true rfl) (hz.o14 rfl) rfl (Nat.le_of_ble_eq_true rfl) (fun vr h2 hq => ?_) (fun E9 h9 hq => hq.elim)
      obtain ⟨rfl, hz⟩ := hq
      show wp _ _ 216 [(0, .ref (A 14 0 0)), (1, .int x1)] [] _ _ _
      refine w_goto 199 dX14_work_216 rfl ?_
      refine w_lv [(0, .ref (A 14 0 0)), (1, .int x1)] [0, 1] rfl ?_
      exact u_X14_work_199 hf hrm   n  _ _ hz  hr
set_option maxRecDepth 20000 in
set_option maxHeartbeats 4000000 in
theorem t_X14_work {A : Nat → Nat → Nat → Nat} {h : Hp} {σ ρ ρ' : Zs} {v : Unit} {x1 : Int32}  (hz : Rp A h σ ρ) (hr : fX14_work x1 ρ = some (.ok v, ρ')) : ∀ l : Launch, Sp l mX14_work 99 1 7 [.ref (A 14 0 0), .int x1] h (QV A v σ ρ') X0 := by
  intro l
  refine Sp.of rfl rfl (lv := [(0, .ref (A 14 0 0)), (1, .int x1)]) (Nat.le_of_ble_eq_true rfl) rfl (fun x hf hrm => ?_)
  rw [fX14_work.eq_1] at hr
  refine w_aload_n 0 dX14_work_0 rfl rfl rfl ?_
  refine g_X14_24 dX14_work_1 rfl (hz.o14 rfl) (hz.r902 rfl) ?_
  refine w_aload_n 0 dX14_work_4 rfl rfl rfl ?_
  refine g_X14_204 dX14_work_5 rfl (hz.o14 rfl) (hz.i905 rfl) ?_
  obtain ⟨g1, hr⟩ := gd hr
  refine w_iald dX14_work_8 rfl (hz.k902 rfl) (gin (hz.n902 rfl) g1) (hz.x902 rfl) ?_
  refine w_istore_n [(2, .int (zI ρ 1926 0 0 (Int32.toNatClampNeg (zI ρ 905 0 0 0)))), (0, .ref (A 14 0 0)), (1, .int x1)] dX14_work_9 rfl rfl (by decide) rfl ?_
  refine w_aload_n 1 dX14_work_10 rfl rfl rfl ?_
  refine g_X14_27 dX14_work_11 rfl (hz.o14 rfl) (hz.r903 rfl) ?_
  refine w_aload_n 1 dX14_work_14 rfl rfl rfl ?_
  refine g_X14_204 dX14_work_15 rfl (hz.o14 rfl) (hz.i905 rfl) ?_
  obtain ⟨g2, hr⟩ := gd hr
  refine w_iald dX14_work_18 rfl (hz.k903 rfl) (gin (hz.n903 rfl) g2) (hz.x903 rfl) ?_
  refine w_istore_n [(3, .int (zI ρ 1927 0 0 (Int32.toNatClampNeg (zI ρ 905 0 0 0)))), (2, .int (zI ρ 1926 0 0 (Int32.toNatClampNeg (zI ρ 905 0 0 0)))), (0, .ref (A 14 0 0)), (1, .int x1)] dX14_work_19 rfl rfl (by decide) rfl ?_
  refine works_row hrm hz (Nat.le_of_ble_eq_true rfl) (Nat.le_of_ble_eq_true rfl) (fun h3 hz => ?_)
  refine w_iload 4 dX14_work_93 rfl rfl ?_
  refine w_iconst (-1) dX14_work_95 rfl rfl ?_
  refine w_icmp_ne 104 dX14_work_96 rfl rfl (fun q96 => ?_) (fun q96 => ?_)
  · have hr := bf q96 hr
    refine w_aload_n 0 dX14_work_104 rfl rfl rfl ?_
    obtain ⟨v3, ρ4, e5, hr⟩ := bw_some hr
    rcases v3 with w7e | w7
    · exact noko (bw_er hr)
    have hr := bw_ok hr
    refine c_X14_226 (As := []) (rest := []) (fun l => t_X14_take  hz e5 l) hrm dX14_work_105 rfl rfl (Nat.le_of_ble_eq_true rfl) (Nat.le_of_ble_eq_true rfl) (Nat.le_of_ble_eq_true rfl) (hz.o14 rfl) rfl (Nat.le_of_ble_eq_true rfl) (fun vr h2 hq => ?_) (fun E9 h9 hq => hq.elim)
    obtain ⟨rfl, hz⟩ := hq
    show wp _ _ 108 [(0, .ref (A 14 0 0)), (1, .int x1), (2, .int (zI ρ 1926 0 0 (Int32.toNatClampNeg (zI ρ 905 0 0 0)))), (3, .int (zI ρ 1927 0 0 (Int32.toNatClampNeg (zI ρ 905 0 0 0)))), (5, .int (wkj 7 (zI ρ 1926 0 0 (Int32.toNatClampNeg (zI ρ 905 0 0 0)))))] [] _ _ _
    refine w_aload_n 0 dX14_work_108 rfl rfl rfl ?_
    obtain ⟨v8, ρ9, e10, hr⟩ := bw_some hr
    rcases v8 with w12e | w12
    · exact noko (bw_er hr)
    have hr := bw_ok hr
    refine c_X14_344 (As := []) (rest := []) (fun l => t_X14_streamNamed  hz e10 l) hrm dX14_work_109 rfl rfl (Nat.le_of_ble_eq_true rfl) (Nat.le_of_ble_eq_true rfl) (Nat.le_of_ble_eq_true rfl) (hz.o14 rfl) rfl (Nat.le_of_ble_eq_true rfl) (fun vr h2 hq => ?_) (fun E9 h9 hq => hq.elim)
    obtain ⟨rfl, hz⟩ := hq
    show wp _ _ 112 [(0, .ref (A 14 0 0)), (1, .int x1), (2, .int (zI ρ 1926 0 0 (Int32.toNatClampNeg (zI ρ 905 0 0 0)))), (3, .int (zI ρ 1927 0 0 (Int32.toNatClampNeg (zI ρ 905 0 0 0)))), (5, .int (wkj 7 (zI ρ 1926 0 0 (Int32.toNatClampNeg (zI ρ 905 0 0 0)))))] [.int w12] _ _ _
    refine w_istore [(6, .int w12), (0, .ref (A 14 0 0)), (1, .int x1), (2, .int (zI ρ 1926 0 0 (Int32.toNatClampNeg (zI ρ 905 0 0 0)))), (3, .int (zI ρ 1927 0 0 (Int32.toNatClampNeg (zI ρ 905 0 0 0)))), (5, .int (wkj 7 (zI ρ 1926 0 0 (Int32.toNatClampNeg (zI ρ 905 0 0 0)))))] dX14_work_112 rfl (by decide) rfl ?_
    refine w_aload_n 1 dX14_work_114 rfl rfl rfl ?_
    obtain ⟨g14, hr⟩ := gd hr
    have hv13 := hz.ww909 (p := 0) (s := 0) rfl g14
    refine g_X14_232 dX14_work_115 rfl (hz.o14 rfl) (hz.rr909 rfl g14) ?_
    refine g_X14_368 dX14_work_118 rfl (hz.o12 hv13) (hz.r770 hv13) ?_
    refine w_iload_n 2 dX14_work_121 rfl rfl rfl ?_
    refine w_iload 5 dX14_work_122 rfl rfl ?_
    refine w_iconst 1 dX14_work_124 rfl rfl ?_
    refine w_iadd dX14_work_125 rfl ?_
    obtain ⟨g15, hr⟩ := gd hr
    refine w_iast dX14_work_126 rfl (hz.k770 hv13) (gin (hz.n770 hv13) g15) ?_
    obtain ⟨ρ16, e17, hr⟩ := lt_e hr
    have hz := (hz.s770 (i := (Int32.toNatClampNeg x1)) (v := ((wkj 7 (zI ρ 1926 0 0 (Int32.toNatClampNeg (zI ρ 905 0 0 0)))) + 1)) hv13).tr e17
    refine w_aload_n 1 dX14_work_127 rfl rfl rfl ?_
    obtain ⟨g19, hr⟩ := gd hr
    have hv18 := hz.ww909 (p := 0) (s := 0) rfl g19
    refine g_X14_232 dX14_work_128 rfl (hz.o14 rfl) (hz.rr909 rfl g19) ?_
    refine g_X14_323 dX14_work_131 rfl (hz.o12 hv18) (hz.r773 hv18) ?_
    refine w_iload_n 2 dX14_work_134 rfl rfl rfl ?_
    refine w_iload 0 dX14_work_135 rfl rfl ?_
    obtain ⟨g20, hr⟩ := gd hr
    refine w_iast dX14_work_137 rfl (hz.k773 hv18) (gin (hz.n773 hv18) g20) ?_
    obtain ⟨ρ21, e22, hr⟩ := lt_e hr
    have hz := (hz.s773 (i := (Int32.toNatClampNeg x1)) (v := w12) hv18).tr e22
    refine w_aload_n 1 dX14_work_138 rfl rfl rfl ?_
    refine w_iload 0 dX14_work_139 rfl rfl ?_
    refine p_X14_270 dX14_work_141 rfl (hz.o14 rfl) ?_
    obtain ⟨ρ23, e24, hr⟩ := lt_e hr
    have hz := (hz.s910 (v := w12) rfl).tr e24
    refine w_iload_n 3 dX14_work_144 rfl rfl rfl ?_
    refine w_iconst 3 dX14_work_145 rfl rfl ?_
    refine w_icmp_ne 177 dX14_work_146 rfl rfl (fun q146 => ?_) (fun q146 => ?_)
    · have hr := bf q146 hr
      refine w_iload_n 3 dX14_work_177 rfl rfl rfl ?_
      refine w_iconst 5 dX14_work_178 rfl rfl ?_
      refine w_icmp_ne 219 dX14_work_179 rfl rfl (fun q179 => ?_) (fun q179 => ?_)
      · have hr := bf q179 hr
        refine w_iload_n 3 dX14_work_219 rfl rfl rfl ?_
        refine w_bipush 7 dX14_work_220 rfl rfl ?_
        refine w_icmp_ne 268 dX14_work_222 rfl rfl (fun q222 => ?_) (fun q222 => ?_)
        · have hr := bf q222 hr
          refine w_iload_n 3 dX14_work_268 rfl rfl rfl ?_
          refine w_bipush 8 dX14_work_269 rfl rfl ?_
          refine w_icmp_ne 427 dX14_work_271 rfl rfl (fun q271 => ?_) (fun q271 => ?_)
          · have hr := bf q271 hr
            refine w_iload_n 3 dX14_work_427 rfl rfl rfl ?_
            refine w_bipush 9 dX14_work_428 rfl rfl ?_
            refine w_icmp_ne 443 dX14_work_430 rfl rfl (fun q430 => ?_) (fun q430 => ?_)
            · have hr := bf q430 hr
              refine w_iload_n 3 dX14_work_443 rfl rfl rfl ?_
              refine w_bipush 12 dX14_work_444 rfl rfl ?_
              refine w_icmp_ne 500 dX14_work_446 rfl rfl (fun q446 => ?_) (fun q446 => ?_)
              · have hr := bf q446 hr
                refine w_aload_n 1 dX14_work_500 rfl rfl rfl ?_
                refine w_iload_n 2 dX14_work_501 rfl rfl rfl ?_
                refine w_iload 0 dX14_work_502 rfl rfl ?_
                obtain ⟨v25, ρ26, e27, hr⟩ := bw_some hr
                rcases v25 with w29e | w29
                · exact noko (bw_er hr)
                have hr := bw_ok hr
                refine c_X14_393 (As := [.int x1, .int w12]) (rest := []) (fun l => t_X14_window  hz e27 l) hrm dX14_work_504 rfl rfl (Nat.le_of_ble_eq_true rfl) (Nat.le_of_ble_eq_true rfl) (Nat.le_of_ble_eq_true rfl) (hz.o14 rfl) rfl (Nat.le_of_ble_eq_true rfl) (fun vr h2 hq => ?_) (fun E9 h9 hq => hq.elim)
                obtain ⟨rfl, hz⟩ := hq
                show wp _ _ 507 [(6, .int w12), (0, .ref (A 14 0 0)), (1, .int x1), (2, .int (zI ρ 1926 0 0 (Int32.toNatClampNeg (zI ρ 905 0 0 0)))), (3, .int (zI ρ 1927 0 0 (Int32.toNatClampNeg (zI ρ 905 0 0 0)))), (5, .int (wkj 7 (zI ρ 1926 0 0 (Int32.toNatClampNeg (zI ρ 905 0 0 0)))))] [] _ _ _
                refine w_vret hf dX14_work_507 rfl (Nat.le_of_ble_eq_true rfl) (Nat.le_of_ble_eq_true rfl) ?_
                obtain ⟨rfl, rfl⟩ := retw hr
                exact ⟨rfl, hz⟩
              · have hr := bt q446 hr
                refine w_aload_n 1 dX14_work_449 rfl rfl rfl ?_
                refine w_bipush 13 dX14_work_450 rfl rfl ?_
                obtain ⟨v30, ρ31, e32, hr⟩ := bw_some hr
                rcases v30 with w34e | w34
                · exact noko (bw_er hr)
                have hr := bw_ok hr
                refine c_X14_284 (As := [.int 13]) (rest := []) (fun l => t_X14_take_  hz e32 l) hrm dX14_work_452 rfl rfl (Nat.le_of_ble_eq_true rfl) (Nat.le_of_ble_eq_true rfl) (Nat.le_of_ble_eq_true rfl) (hz.o14 rfl) rfl (Nat.le_of_ble_eq_true rfl) (fun vr h2 hq => ?_) (fun E9 h9 hq => hq.elim)
                obtain ⟨rfl, hz⟩ := hq
                show wp _ _ 455 [(6, .int w12), (0, .ref (A 14 0 0)), (1, .int x1), (2, .int (zI ρ 1926 0 0 (Int32.toNatClampNeg (zI ρ 905 0 0 0)))), (3, .int (zI ρ 1927 0 0 (Int32.toNatClampNeg (zI ρ 905 0 0 0)))), (5, .int (wkj 7 (zI ρ 1926 0 0 (Int32.toNatClampNeg (zI ρ 905 0 0 0)))))] [] _ _ _
                refine w_aload_n 1 dX14_work_455 rfl rfl rfl ?_
                obtain ⟨g36, hr⟩ := gd hr
                have hv35 := hz.ww909 (p := 0) (s := 0) rfl g36
                refine g_X14_232 dX14_work_456 rfl (hz.o14 rfl) (hz.rr909 rfl g36) ?_
                refine g_X14_387 dX14_work_459 rfl (hz.o12 hv35) (hz.r777 hv35) ?_
                refine w_iload_n 2 dX14_work_462 rfl rfl rfl ?_
                refine w_aload_n 1 dX14_work_463 rfl rfl rfl ?_
                refine w_iload 0 dX14_work_464 rfl rfl ?_
                obtain ⟨v37, ρ38, e39, hr⟩ := bw_some hr
                rcases v37 with w41e | w41
                · exact noko (bw_er hr)
                have hr := bw_ok hr
                refine c_X14_390 (As := [.int w12]) (rest := [.int x1, .ref (A 1801 (zR ρ31 909 0 0 0).1 0)]) (fun l => t_X14_columnNamed  hz e39 l) hrm dX14_work_466 rfl rfl (Nat.le_of_ble_eq_true rfl) (Nat.le_of_ble_eq_true rfl) (Nat.le_of_ble_eq_true rfl) (hz.o14 rfl) rfl (Nat.le_of_ble_eq_true rfl) (fun vr h2 hq => ?_) (fun E9 h9 hq => hq.elim)
                obtain ⟨rfl, hz⟩ := hq
                show wp _ _ 469 [(6, .int w12), (0, .ref (A 14 0 0)), (1, .int x1), (2, .int (zI ρ 1926 0 0 (Int32.toNatClampNeg (zI ρ 905 0 0 0)))), (3, .int (zI ρ 1927 0 0 (Int32.toNatClampNeg (zI ρ 905 0 0 0)))), (5, .int (wkj 7 (zI ρ 1926 0 0 (Int32.toNatClampNeg (zI ρ 905 0 0 0)))))] [.int w41, .int x1, .ref (A 1801 (zR ρ31 909 0 0 0).1 0)] _ _ _
                obtain ⟨g42, hr⟩ := gd hr
                refine w_iast dX14_work_469 rfl (hz.k777 hv35) (gin (hz.n777 hv35) g42) ?_
                obtain ⟨ρ43, e44, hr⟩ := lt_e hr
                have hz := (hz.s777 (i := (Int32.toNatClampNeg x1)) (v := w41) hv35).tr e44
                refine w_aload_n 1 dX14_work_470 rfl rfl rfl ?_
                refine w_bipush 11 dX14_work_471 rfl rfl ?_
                obtain ⟨v45, ρ46, e47, hr⟩ := bw_some hr
                rcases v45 with w49e | w49
                · exact noko (bw_er hr)
                have hr := bw_ok hr
                refine c_X14_284 (As := [.int 11]) (rest := []) (fun l => t_X14_take_  hz e47 l) hrm dX14_work_473 rfl rfl (Nat.le_of_ble_eq_true rfl) (Nat.le_of_ble_eq_true rfl) (Nat.le_of_ble_eq_true rfl) (hz.o14 rfl) rfl (Nat.le_of_ble_eq_true rfl) (fun vr h2 hq => ?_) (fun E9 h9 hq => hq.elim)
                obtain ⟨rfl, hz⟩ := hq
                show wp _ _ 476 [(6, .int w12), (0, .ref (A 14 0 0)), (1, .int x1), (2, .int (zI ρ 1926 0 0 (Int32.toNatClampNeg (zI ρ 905 0 0 0)))), (3, .int (zI ρ 1927 0 0 (Int32.toNatClampNeg (zI ρ 905 0 0 0)))), (5, .int (wkj 7 (zI ρ 1926 0 0 (Int32.toNatClampNeg (zI ρ 905 0 0 0)))))] [] _ _ _
                refine w_aload_n 1 dX14_work_476 rfl rfl rfl ?_
                obtain ⟨g51, hr⟩ := gd hr
                have hv50 := hz.ww909 (p := 0) (s := 0) rfl g51
                refine g_X14_232 dX14_work_477 rfl (hz.o14 rfl) (hz.rr909 rfl g51) ?_
                refine g_X14_369 dX14_work_480 rfl (hz.o12 hv50) (hz.r775 hv50) ?_
                refine w_iload_n 2 dX14_work_483 rfl rfl rfl ?_
                refine w_aload_n 1 dX14_work_484 rfl rfl rfl ?_
                refine w_iconst 0 dX14_work_485 rfl rfl ?_
                obtain ⟨v52, ρ53, e54, hr⟩ := bw_some hr
                rcases v52 with w56e | w56
                · exact noko (bw_er hr)
                have hr := bw_ok hr
                refine c_X14_372 (As := [.int 0]) (rest := [.int x1, .ref (A 1799 (zR ρ46 909 0 0 0).1 0)]) (fun l => t_X14_numberIn  hz e54 l) hrm dX14_work_486 rfl rfl (Nat.le_of_ble_eq_true rfl) (Nat.le_of_ble_eq_true rfl) (Nat.le_of_ble_eq_true rfl) (hz.o14 rfl) rfl (Nat.le_of_ble_eq_true rfl) (fun vr h2 hq => ?_) (fun E9 h9 hq => hq.elim)
                obtain ⟨rfl, hz⟩ := hq
                show wp _ _ 489 [(6, .int w12), (0, .ref (A 14 0 0)), (1, .int x1), (2, .int (zI ρ 1926 0 0 (Int32.toNatClampNeg (zI ρ 905 0 0 0)))), (3, .int (zI ρ 1927 0 0 (Int32.toNatClampNeg (zI ρ 905 0 0 0)))), (5, .int (wkj 7 (zI ρ 1926 0 0 (Int32.toNatClampNeg (zI ρ 905 0 0 0)))))] [.int w56, .int x1, .ref (A 1799 (zR ρ46 909 0 0 0).1 0)] _ _ _
                obtain ⟨g57, hr⟩ := gd hr
                refine w_iast dX14_work_489 rfl (hz.k775 hv50) (gin (hz.n775 hv50) g57) ?_
                obtain ⟨ρ58, e59, hr⟩ := lt_e hr
                have hz := (hz.s775 (i := (Int32.toNatClampNeg x1)) (v := w56) hv50).tr e59
                refine w_aload_n 1 dX14_work_490 rfl rfl rfl ?_
                refine w_iload 0 dX14_work_491 rfl rfl ?_
                refine w_iconst (-1) dX14_work_493 rfl rfl ?_
                obtain ⟨v60, ρ61, e62, hr⟩ := bq_some hr
                refine c_X14_375 (As := [.int w12, .int (-1)]) (rest := []) (fun l => s_X14_sayAll  hz e62 l) hrm dX14_work_494 rfl rfl (Nat.le_of_ble_eq_true rfl) (Nat.le_of_ble_eq_true rfl) (Nat.le_of_ble_eq_true rfl) (hz.o14 rfl) rfl (Nat.le_of_ble_eq_true rfl) (fun vr h2 hq => ?_) (fun E9 h9 hq => hq.elim)
                obtain ⟨rfl, hz⟩ := hq
                show wp _ _ 497 [(6, .int w12), (0, .ref (A 14 0 0)), (1, .int x1), (2, .int (zI ρ 1926 0 0 (Int32.toNatClampNeg (zI ρ 905 0 0 0)))), (3, .int (zI ρ 1927 0 0 (Int32.toNatClampNeg (zI ρ 905 0 0 0)))), (5, .int (wkj 7 (zI ρ 1926 0 0 (Int32.toNatClampNeg (zI ρ 905 0 0 0)))))] [] _ _ _
                refine w_goto 507 dX14_work_497 rfl ?_
                refine w_vret hf dX14_work_507 rfl (Nat.le_of_ble_eq_true rfl) (Nat.le_of_ble_eq_true rfl) ?_
                obtain ⟨rfl, rfl⟩ := retw hr
                exact ⟨rfl, hz⟩
            · have hr := bt q430 hr
              refine w_aload_n 1 dX14_work_433 rfl rfl rfl ?_
              refine w_iload_n 2 dX14_work_434 rfl rfl rfl ?_
              refine w_iload 0 dX14_work_435 rfl rfl ?_
              obtain ⟨v64, ρ65, e66, hr⟩ := bw_some hr
              rcases v64 with w68e | w68
              · exact noko (bw_er hr)
              have hr := bw_ok hr
              refine c_X14_384 (As := [.int x1, .int w12]) (rest := []) (fun l => t_X14_join  hz e66 l) hrm dX14_work_437 rfl rfl (Nat.le_of_ble_eq_true rfl) (Nat.le_of_ble_eq_true rfl) (Nat.le_of_ble_eq_true rfl) (hz.o14 rfl) rfl (Nat.le_of_ble_eq_true rfl) (fun vr h2 hq => ?_) (fun E9 h9 hq => hq.elim)
              obtain ⟨rfl, hz⟩ := hq
              show wp _ _ 440 [(6, .int w12), (0, .ref (A 14 0 0)), (1, .int x1), (2, .int (zI ρ 1926 0 0 (Int32.toNatClampNeg (zI ρ 905 0 0 0)))), (3, .int (zI ρ 1927 0 0 (Int32.toNatClampNeg (zI ρ 905 0 0 0)))), (5, .int (wkj 7 (zI ρ 1926 0 0 (Int32.toNatClampNeg (zI ρ 905 0 0 0)))))] [] _ _ _
              refine w_goto 507 dX14_work_440 rfl ?_
              refine w_vret hf dX14_work_507 rfl (Nat.le_of_ble_eq_true rfl) (Nat.le_of_ble_eq_true rfl) ?_
              obtain ⟨rfl, rfl⟩ := retw hr
              exact ⟨rfl, hz⟩
          · have hr := bt q271 hr
            refine w_aload_n 1 dX14_work_274 rfl rfl rfl ?_
            refine w_bipush 102 dX14_work_275 rfl rfl ?_
            obtain ⟨v69, ρ70, e71, hr⟩ := bw_some hr
            rcases v69 with w73e | w73
            · exact noko (bw_er hr)
            have hr := bw_ok hr
            refine c_X14_284 (As := [.int 102]) (rest := []) (fun l => t_X14_take_  hz e71 l) hrm dX14_work_277 rfl rfl (Nat.le_of_ble_eq_true rfl) (Nat.le_of_ble_eq_true rfl) (Nat.le_of_ble_eq_true rfl) (hz.o14 rfl) rfl (Nat.le_of_ble_eq_true rfl) (fun vr h2 hq => ?_) (fun E9 h9 hq => hq.elim)
            obtain ⟨rfl, hz⟩ := hq
            show wp _ _ 280 [(6, .int w12), (0, .ref (A 14 0 0)), (1, .int x1), (2, .int (zI ρ 1926 0 0 (Int32.toNatClampNeg (zI ρ 905 0 0 0)))), (3, .int (zI ρ 1927 0 0 (Int32.toNatClampNeg (zI ρ 905 0 0 0)))), (5, .int (wkj 7 (zI ρ 1926 0 0 (Int32.toNatClampNeg (zI ρ 905 0 0 0)))))] [] _ _ _
            refine w_aload_n 1 dX14_work_280 rfl rfl rfl ?_
            obtain ⟨g75, hr⟩ := gd hr
            have hv74 := hz.ww909 (p := 0) (s := 0) rfl g75
            refine g_X14_232 dX14_work_281 rfl (hz.o14 rfl) (hz.rr909 rfl g75) ?_
            refine g_X14_326 dX14_work_284 rfl (hz.o12 hv74) (hz.r774 hv74) ?_
            refine w_iload_n 2 dX14_work_287 rfl rfl rfl ?_
            refine w_aload_n 1 dX14_work_288 rfl rfl rfl ?_
            obtain ⟨v76, ρ77, e78, hr⟩ := bw_some hr
            rcases v76 with w80e | w80
            · exact noko (bw_er hr)
            have hr := bw_ok hr
            refine c_X14_344 (As := []) (rest := [.int x1, .ref (A 1798 (zR ρ70 909 0 0 0).1 0)]) (fun l => t_X14_streamNamed  hz e78 l) hrm dX14_work_289 rfl rfl (Nat.le_of_ble_eq_true rfl) (Nat.le_of_ble_eq_true rfl) (Nat.le_of_ble_eq_true rfl) (hz.o14 rfl) rfl (Nat.le_of_ble_eq_true rfl) (fun vr h2 hq => ?_) (fun E9 h9 hq => hq.elim)
            obtain ⟨rfl, hz⟩ := hq
            show wp _ _ 292 [(6, .int w12), (0, .ref (A 14 0 0)), (1, .int x1), (2, .int (zI ρ 1926 0 0 (Int32.toNatClampNeg (zI ρ 905 0 0 0)))), (3, .int (zI ρ 1927 0 0 (Int32.toNatClampNeg (zI ρ 905 0 0 0)))), (5, .int (wkj 7 (zI ρ 1926 0 0 (Int32.toNatClampNeg (zI ρ 905 0 0 0)))))] [.int w80, .int x1, .ref (A 1798 (zR ρ70 909 0 0 0).1 0)] _ _ _
            obtain ⟨g81, hr⟩ := gd hr
            refine w_iast dX14_work_292 rfl (hz.k774 hv74) (gin (hz.n774 hv74) g81) ?_
            obtain ⟨ρ82, e83, hr⟩ := lt_e hr
            have hz := (hz.s774 (i := (Int32.toNatClampNeg x1)) (v := w80) hv74).tr e83
            refine w_aload_n 1 dX14_work_293 rfl rfl rfl ?_
            obtain ⟨g85, hr⟩ := gd hr
            have hv84 := hz.ww909 (p := 0) (s := 0) rfl g85
            refine g_X14_232 dX14_work_294 rfl (hz.o14 rfl) (hz.rr909 rfl g85) ?_
            refine g_X14_292 dX14_work_297 rfl (hz.o12 hv84) (hz.r771 hv84) ?_
            refine w_iload 0 dX14_work_300 rfl rfl ?_
            obtain ⟨g86, hr⟩ := gd hr
            refine w_iald dX14_work_302 rfl (hz.k771 hv84) (gin (hz.n771 hv84) g86) (hz.x771 hv84) ?_
            refine w_aload_n 1 dX14_work_303 rfl rfl rfl ?_
            obtain ⟨g88, hr⟩ := gd hr
            have hv87 := hz.ww909 (p := 0) (s := 0) rfl g88
            refine g_X14_232 dX14_work_304 rfl (hz.o14 rfl) (hz.rr909 rfl g88) ?_
            refine g_X14_292 dX14_work_307 rfl (hz.o12 hv87) (hz.r771 hv87) ?_
            refine w_aload_n 1 dX14_work_310 rfl rfl rfl ?_
            obtain ⟨g90, hr⟩ := gd hr
            have hv89 := hz.ww909 (p := 0) (s := 0) rfl g90
            refine g_X14_232 dX14_work_311 rfl (hz.o14 rfl) (hz.rr909 rfl g90) ?_
            refine g_X14_326 dX14_work_314 rfl (hz.o12 hv89) (hz.r774 hv89) ?_
            refine w_iload_n 2 dX14_work_317 rfl rfl rfl ?_
            obtain ⟨g91, hr⟩ := gd hr
            refine w_iald dX14_work_318 rfl (hz.k774 hv89) (gin (hz.n774 hv89) g91) (hz.x774 hv89) ?_
            obtain ⟨g92, hr⟩ := gd hr
            refine w_iald dX14_work_319 rfl (hz.k771 hv87) (gin (hz.n771 hv87) g92) (hz.x771 hv87) ?_
            refine w_icmp_ne 327 dX14_work_320 rfl rfl (fun q320 => ?_) (fun q320 => ?_)
            · have hr := bf q320 hr
              refine w_iconst 0 dX14_work_327 rfl rfl ?_
              refine w_istore [(7, .int 0), (6, .int w12), (0, .ref (A 14 0 0)), (1, .int x1), (2, .int (zI ρ 1926 0 0 (Int32.toNatClampNeg (zI ρ 905 0 0 0)))), (3, .int (zI ρ 1927 0 0 (Int32.toNatClampNeg (zI ρ 905 0 0 0)))), (5, .int (wkj 7 (zI ρ 1926 0 0 (Int32.toNatClampNeg (zI ρ 905 0 0 0)))))] dX14_work_328 rfl (by decide) rfl ?_
              refine w_iconst 0 dX14_work_330 rfl rfl ?_
              refine w_istore [(8, .int 0), (7, .int 0), (6, .int w12), (0, .ref (A 14 0 0)), (1, .int x1), (2, .int (zI ρ 1926 0 0 (Int32.toNatClampNeg (zI ρ 905 0 0 0)))), (3, .int (zI ρ 1927 0 0 (Int32.toNatClampNeg (zI ρ 905 0 0 0)))), (5, .int (wkj 7 (zI ρ 1926 0 0 (Int32.toNatClampNeg (zI ρ 905 0 0 0)))))] dX14_work_331 rfl (by decide) rfl ?_
              refine w_lv [(0, .ref (A 14 0 0)), (1, .int x1), (3, .int (zI ρ 1927 0 0 (Int32.toNatClampNeg (zI ρ 905 0 0 0)))), (6, .int w12), (7, .int 0), (8, .int 0)] [3, 4, 6, 2, 1, 0] rfl ?_
              exact u_X14_work_333 hf hrm   FU (zI ρ 1927 0 0 (Int32.toNatClampNeg (zI ρ 905 0 0 0))) w12 0 0 _ _ hz  hr
            · have hr := bt q320 hr
              refine w_iconst 1 dX14_work_323 rfl rfl ?_
              refine w_goto 328 dX14_work_324 rfl ?_
              refine w_istore [(7, .int 1), (6, .int w12), (0, .ref (A 14 0 0)), (1, .int x1), (2, .int (zI ρ 1926 0 0 (Int32.toNatClampNeg (zI ρ 905 0 0 0)))), (3, .int (zI ρ 1927 0 0 (Int32.toNatClampNeg (zI ρ 905 0 0 0)))), (5, .int (wkj 7 (zI ρ 1926 0 0 (Int32.toNatClampNeg (zI ρ 905 0 0 0)))))] dX14_work_328 rfl (by decide) rfl ?_
              refine w_iconst 0 dX14_work_330 rfl rfl ?_
              refine w_istore [(8, .int 0), (7, .int 1), (6, .int w12), (0, .ref (A 14 0 0)), (1, .int x1), (2, .int (zI ρ 1926 0 0 (Int32.toNatClampNeg (zI ρ 905 0 0 0)))), (3, .int (zI ρ 1927 0 0 (Int32.toNatClampNeg (zI ρ 905 0 0 0)))), (5, .int (wkj 7 (zI ρ 1926 0 0 (Int32.toNatClampNeg (zI ρ 905 0 0 0)))))] dX14_work_331 rfl (by decide) rfl ?_
              refine w_lv [(0, .ref (A 14 0 0)), (1, .int x1), (3, .int (zI ρ 1927 0 0 (Int32.toNatClampNeg (zI ρ 905 0 0 0)))), (6, .int w12), (7, .int 1), (8, .int 0)] [3, 4, 6, 2, 1, 0] rfl ?_
              exact u_X14_work_333 hf hrm   FU (zI ρ 1927 0 0 (Int32.toNatClampNeg (zI ρ 905 0 0 0))) w12 1 0 _ _ hz  hr
        · have hr := bt q222 hr
          refine w_aload_n 1 dX14_work_225 rfl rfl rfl ?_
          refine w_bipush 100 dX14_work_226 rfl rfl ?_
          obtain ⟨v123, ρ124, e125, hr⟩ := bw_some hr
          rcases v123 with w127e | w127
          · exact noko (bw_er hr)
          have hr := bw_ok hr
          refine c_X14_284 (As := [.int 100]) (rest := []) (fun l => t_X14_take_  hz e125 l) hrm dX14_work_228 rfl rfl (Nat.le_of_ble_eq_true rfl) (Nat.le_of_ble_eq_true rfl) (Nat.le_of_ble_eq_true rfl) (hz.o14 rfl) rfl (Nat.le_of_ble_eq_true rfl) (fun vr h2 hq => ?_) (fun E9 h9 hq => hq.elim)
          obtain ⟨rfl, hz⟩ := hq
          show wp _ _ 231 [(6, .int w12), (0, .ref (A 14 0 0)), (1, .int x1), (2, .int (zI ρ 1926 0 0 (Int32.toNatClampNeg (zI ρ 905 0 0 0)))), (3, .int (zI ρ 1927 0 0 (Int32.toNatClampNeg (zI ρ 905 0 0 0)))), (5, .int (wkj 7 (zI ρ 1926 0 0 (Int32.toNatClampNeg (zI ρ 905 0 0 0)))))] [] _ _ _
          refine w_aload_n 1 dX14_work_231 rfl rfl rfl ?_
          refine w_iload 0 dX14_work_232 rfl rfl ?_
          obtain ⟨v128, ρ129, e130, hr⟩ := bw_some hr
          rcases v128 with w132e | w132
          · exact noko (bw_er hr)
          have hr := bw_ok hr
          refine c_X14_381 (As := [.int w12]) (rest := []) (fun l => t_X14_pickOne  hz e130 l) hrm dX14_work_234 rfl rfl (Nat.le_of_ble_eq_true rfl) (Nat.le_of_ble_eq_true rfl) (Nat.le_of_ble_eq_true rfl) (hz.o14 rfl) rfl (Nat.le_of_ble_eq_true rfl) (fun vr h2 hq => ?_) (fun E9 h9 hq => hq.elim)
          obtain ⟨rfl, hz⟩ := hq
          show wp _ _ 237 [(6, .int w12), (0, .ref (A 14 0 0)), (1, .int x1), (2, .int (zI ρ 1926 0 0 (Int32.toNatClampNeg (zI ρ 905 0 0 0)))), (3, .int (zI ρ 1927 0 0 (Int32.toNatClampNeg (zI ρ 905 0 0 0)))), (5, .int (wkj 7 (zI ρ 1926 0 0 (Int32.toNatClampNeg (zI ρ 905 0 0 0)))))] [] _ _ _
          refine w_lv [(0, .ref (A 14 0 0)), (1, .int x1), (6, .int w12)] [1, 2, 0] rfl ?_
          exact u_X14_work_237 hf hrm   FU w12 _ _ hz  hr
      · have hr := bt q179 hr
        refine w_aload_n 1 dX14_work_182 rfl rfl rfl ?_
        refine w_iload 0 dX14_work_183 rfl rfl ?_
        refine w_iconst (-1) dX14_work_185 rfl rfl ?_
        obtain ⟨v152, ρ153, e154, hr⟩ := bq_some hr
        refine c_X14_375 (As := [.int w12, .int (-1)]) (rest := []) (fun l => s_X14_sayAll  hz e154 l) hrm dX14_work_186 rfl rfl (Nat.le_of_ble_eq_true rfl) (Nat.le_of_ble_eq_true rfl) (Nat.le_of_ble_eq_true rfl) (hz.o14 rfl) rfl (Nat.le_of_ble_eq_true rfl) (fun vr h2 hq => ?_) (fun E9 h9 hq => hq.elim)
        obtain ⟨rfl, hz⟩ := hq
        show wp _ _ 189 [(6, .int w12), (0, .ref (A 14 0 0)), (1, .int x1), (2, .int (zI ρ 1926 0 0 (Int32.toNatClampNeg (zI ρ 905 0 0 0)))), (3, .int (zI ρ 1927 0 0 (Int32.toNatClampNeg (zI ρ 905 0 0 0)))), (5, .int (wkj 7 (zI ρ 1926 0 0 (Int32.toNatClampNeg (zI ρ 905 0 0 0)))))] [] _ _ _
        refine w_aload_n 1 dX14_work_189 rfl rfl rfl ?_
        refine w_bipush 6 dX14_work_190 rfl rfl ?_
        obtain ⟨v156, ρ157, e158, hr⟩ := bw_some hr
        rcases v156 with w160e | w160
        · exact noko (bw_er hr)
        have hr := bw_ok hr
        refine c_X14_284 (As := [.int 6]) (rest := []) (fun l => t_X14_take_  hz e158 l) hrm dX14_work_192 rfl rfl (Nat.le_of_ble_eq_true rfl) (Nat.le_of_ble_eq_true rfl) (Nat.le_of_ble_eq_true rfl) (hz.o14 rfl) rfl (Nat.le_of_ble_eq_true rfl) (fun vr h2 hq => ?_) (fun E9 h9 hq => hq.elim)
        obtain ⟨rfl, hz⟩ := hq
        show wp _ _ 195 [(6, .int w12), (0, .ref (A 14 0 0)), (1, .int x1), (2, .int (zI ρ 1926 0 0 (Int32.toNatClampNeg (zI ρ 905 0 0 0)))), (3, .int (zI ρ 1927 0 0 (Int32.toNatClampNeg (zI ρ 905 0 0 0)))), (5, .int (wkj 7 (zI ρ 1926 0 0 (Int32.toNatClampNeg (zI ρ 905 0 0 0)))))] [] _ _ _
        refine w_aload_n 1 dX14_work_195 rfl rfl rfl ?_
        obtain ⟨v161, ρ162, e163, hr⟩ := bw_some hr
        rcases v161 with w165e | w165
        · exact noko (bw_er hr)
        have hr := bw_ok hr
        refine c_X14_378 (As := []) (rest := []) (fun l => t_X14_makeOne  hz e163 l) hrm dX14_work_196 rfl rfl (Nat.le_of_ble_eq_true rfl) (Nat.le_of_ble_eq_true rfl) (Nat.le_of_ble_eq_true rfl) (hz.o14 rfl) rfl (Nat.le_of_ble_eq_true rfl) (fun vr h2 hq => ?_) (fun E9 h9 hq => hq.elim)
        obtain ⟨rfl, hz⟩ := hq
        show wp _ _ 199 [(6, .int w12), (0, .ref (A 14 0 0)), (1, .int x1), (2, .int (zI ρ 1926 0 0 (Int32.toNatClampNeg (zI ρ 905 0 0 0)))), (3, .int (zI ρ 1927 0 0 (Int32.toNatClampNeg (zI ρ 905 0 0 0)))), (5, .int (wkj 7 (zI ρ 1926 0 0 (Int32.toNatClampNeg (zI ρ 905 0 0 0)))))] [] _ _ _
        refine w_lv [(0, .ref (A 14 0 0)), (1, .int x1)] [1, 2] rfl ?_
        exact u_X14_work_199 hf hrm   FU  _ _ hz  hr
    · have hr := bt q146 hr
      refine w_aload_n 1 dX14_work_149 rfl rfl rfl ?_
      refine w_iconst 4 dX14_work_150 rfl rfl ?_
      obtain ⟨v180, ρ181, e182, hr⟩ := bw_some hr
      rcases v180 with w184e | w184
      · exact noko (bw_er hr)
      have hr := bw_ok hr
      refine c_X14_284 (As := [.int 4]) (rest := []) (fun l => t_X14_take_  hz e182 l) hrm dX14_work_151 rfl rfl (Nat.le_of_ble_eq_true rfl) (Nat.le_of_ble_eq_true rfl) (Nat.le_of_ble_eq_true rfl) (hz.o14 rfl) rfl (Nat.le_of_ble_eq_true rfl) (fun vr h2 hq => ?_) (fun E9 h9 hq => hq.elim)
      obtain ⟨rfl, hz⟩ := hq
      show wp _ _ 154 [(6, .int w12), (0, .ref (A 14 0 0)), (1, .int x1), (2, .int (zI ρ 1926 0 0 (Int32.toNatClampNeg (zI ρ 905 0 0 0)))), (3, .int (zI ρ 1927 0 0 (Int32.toNatClampNeg (zI ρ 905 0 0 0)))), (5, .int (wkj 7 (zI ρ 1926 0 0 (Int32.toNatClampNeg (zI ρ 905 0 0 0)))))] [] _ _ _
      refine w_aload_n 1 dX14_work_154 rfl rfl rfl ?_
      obtain ⟨g186, hr⟩ := gd hr
      have hv185 := hz.ww909 (p := 0) (s := 0) rfl g186
      refine g_X14_232 dX14_work_155 rfl (hz.o14 rfl) (hz.rr909 rfl g186) ?_
      refine g_X14_369 dX14_work_158 rfl (hz.o12 hv185) (hz.r775 hv185) ?_
      refine w_iload_n 2 dX14_work_161 rfl rfl rfl ?_
      refine w_aload_n 1 dX14_work_162 rfl rfl rfl ?_
      obtain ⟨v187, ρ188, e189, hr⟩ := bw_some hr
      rcases v187 with w191e | w191
      · exact noko (bw_er hr)
      have hr := bw_ok hr
      refine c_X14_348 (As := []) (rest := [.int x1, .ref (A 1799 (zR ρ181 909 0 0 0).1 0)]) (fun l => t_X14_whole  hz e189 l) hrm dX14_work_163 rfl rfl (Nat.le_of_ble_eq_true rfl) (Nat.le_of_ble_eq_true rfl) (Nat.le_of_ble_eq_true rfl) (hz.o14 rfl) rfl (Nat.le_of_ble_eq_true rfl) (fun vr h2 hq => ?_) (fun E9 h9 hq => hq.elim)
      obtain ⟨rfl, hz⟩ := hq
      show wp _ _ 166 [(6, .int w12), (0, .ref (A 14 0 0)), (1, .int x1), (2, .int (zI ρ 1926 0 0 (Int32.toNatClampNeg (zI ρ 905 0 0 0)))), (3, .int (zI ρ 1927 0 0 (Int32.toNatClampNeg (zI ρ 905 0 0 0)))), (5, .int (wkj 7 (zI ρ 1926 0 0 (Int32.toNatClampNeg (zI ρ 905 0 0 0)))))] [.int w191, .int x1, .ref (A 1799 (zR ρ181 909 0 0 0).1 0)] _ _ _
      obtain ⟨g192, hr⟩ := gd hr
      refine w_iast dX14_work_166 rfl (hz.k775 hv185) (gin (hz.n775 hv185) g192) ?_
      obtain ⟨ρ193, e194, hr⟩ := lt_e hr
      have hz := (hz.s775 (i := (Int32.toNatClampNeg x1)) (v := w191) hv185).tr e194
      refine w_aload_n 1 dX14_work_167 rfl rfl rfl ?_
      refine w_iload 0 dX14_work_168 rfl rfl ?_
      refine w_iconst (-1) dX14_work_170 rfl rfl ?_
      obtain ⟨v195, ρ196, e197, hr⟩ := bq_some hr
      refine c_X14_375 (As := [.int w12, .int (-1)]) (rest := []) (fun l => s_X14_sayAll  hz e197 l) hrm dX14_work_171 rfl rfl (Nat.le_of_ble_eq_true rfl) (Nat.le_of_ble_eq_true rfl) (Nat.le_of_ble_eq_true rfl) (hz.o14 rfl) rfl (Nat.le_of_ble_eq_true rfl) (fun vr h2 hq => ?_) (fun E9 h9 hq => hq.elim)
      obtain ⟨rfl, hz⟩ := hq
      show wp _ _ 174 [(6, .int w12), (0, .ref (A 14 0 0)), (1, .int x1), (2, .int (zI ρ 1926 0 0 (Int32.toNatClampNeg (zI ρ 905 0 0 0)))), (3, .int (zI ρ 1927 0 0 (Int32.toNatClampNeg (zI ρ 905 0 0 0)))), (5, .int (wkj 7 (zI ρ 1926 0 0 (Int32.toNatClampNeg (zI ρ 905 0 0 0)))))] [] _ _ _
      refine w_goto 507 dX14_work_174 rfl ?_
      refine w_vret hf dX14_work_507 rfl (Nat.le_of_ble_eq_true rfl) (Nat.le_of_ble_eq_true rfl) ?_
      obtain ⟨rfl, rfl⟩ := retw hr
      exact ⟨rfl, hz⟩
  · have hr := bt q96 hr
    refine w_aload_n 0 dX14_work_99 rfl rfl rfl ?_
    obtain ⟨w199, ρ200, e201, hr⟩ := bq_some hr
    exact noko hr

set_option maxRecDepth 20000 in
set_option maxHeartbeats 4000000 in
theorem x_X14_work_333 {A : Nat → Nat → Nat → Nat} {σ ρ' : Zs} {v : Int32 × Int32} {x : Cxt} {x1 : Int32}  (hf : m_fin 2 15 QF (XW A v σ ρ') x) (hrm : m_rm 99 2 15 x)  : ∀ (n : Nat) (y3 : Int32) (y6 : Int32) (y7 : Int32) (y8 : Int32) (ρ : Zs) (h : Hp), Rp A h σ ρ → fX14_work_333 x1  n y3 y6 y7 y8 ρ = some (.error v, ρ') → wp x mX14_work 333 [(0, .ref (A 14 0 0)), (1, .int x1), (3, .int y3), (6, .int y6), (7, .int y7), (8, .int y8)] [] h 1 7
  | 0, _, _, _, _, ρ, h => fun hz hr => by
    rw [fX14_work_333.eq_1] at hr
    exact nono hr
  | n + 1, y3, y6, y7, y8, ρ, h => fun hz hr => by
    rw [fX14_work_333.eq_2] at hr
    refine w_iload 5 dX14_work_333 rfl rfl ?_
    refine w_aload_n 0 dX14_work_335 rfl rfl rfl ?_
    obtain ⟨g94, hr⟩ := gd hr
    have hv93 := hz.ww909 (p := 0) (s := 0) rfl g94
    refine g_X14_232 dX14_work_336 rfl (hz.o14 rfl) (hz.rr909 rfl g94) ?_
    refine g_X14_292 dX14_work_339 rfl (hz.o12 hv93) (hz.r771 hv93) ?_
    refine w_iload 3 dX14_work_342 rfl rfl ?_
    obtain ⟨g95, hr⟩ := gd hr
    refine w_iald dX14_work_344 rfl (hz.k771 hv93) (gin (hz.n771 hv93) g95) (hz.x771 hv93) ?_
    refine w_icmp_ge 409 dX14_work_345 rfl rfl (fun q345 => ?_) (fun q345 => ?_)
    · have hr := bt q345 hr
      refine w_aload_n 0 dX14_work_409 rfl rfl rfl ?_
      refine w_iload 4 dX14_work_410 rfl rfl ?_
      refine w_iconst 3 dX14_work_412 rfl rfl ?_
      refine w_iload_n 2 dX14_work_413 rfl rfl rfl ?_
      obtain ⟨v96, ρ97, e98, hr⟩ := bw_some hr
      rcases v96 with w100e | w100
      · obtain ⟨rfl, rfl⟩ := rete (bw_er hr)
        refine c_X14_277 (As := [.int y7, .int 3, .int y3]) (rest := []) (fun l => e_X14_must  hz e98 l) hrm dX14_work_414 rfl rfl (Nat.le_of_ble_eq_true rfl) (Nat.le_of_ble_eq_true rfl) (Nat.le_of_ble_eq_true rfl) (hz.o14 rfl) rfl (Nat.le_of_ble_eq_true rfl) (fun vr h2 hq => hq.elim) (fun E9 h9 hq => ?_)
        exact w_out hf (Nat.le_of_ble_eq_true rfl) (Nat.le_of_ble_eq_true rfl) hq
      have hr := bw_ok hr
      refine c_X14_277 (As := [.int y7, .int 3, .int y3]) (rest := []) (fun l => t_X14_must  hz e98 l) hrm dX14_work_414 rfl rfl (Nat.le_of_ble_eq_true rfl) (Nat.le_of_ble_eq_true rfl) (Nat.le_of_ble_eq_true rfl) (hz.o14 rfl) rfl (Nat.le_of_ble_eq_true rfl) (fun vr h2 hq => ?_) (fun E9 h9 hq => hq.elim)
      obtain ⟨rfl, hz⟩ := hq
      show wp _ _ 417 [(0, .ref (A 14 0 0)), (1, .int x1), (3, .int y3), (6, .int y6), (7, .int y7), (8, .int y8)] [] _ _ _
      refine w_aload_n 0 dX14_work_417 rfl rfl rfl ?_
      refine w_iload 3 dX14_work_418 rfl rfl ?_
      refine w_iconst (-1) dX14_work_420 rfl rfl ?_
      obtain ⟨v101, ρ102, e103, hr⟩ := bq_some hr
      refine c_X14_375 (As := [.int y6, .int (-1)]) (rest := []) (fun l => s_X14_sayAll  hz e103 l) hrm dX14_work_421 rfl rfl (Nat.le_of_ble_eq_true rfl) (Nat.le_of_ble_eq_true rfl) (Nat.le_of_ble_eq_true rfl) (hz.o14 rfl) rfl (Nat.le_of_ble_eq_true rfl) (fun vr h2 hq => ?_) (fun E9 h9 hq => hq.elim)
      obtain ⟨rfl, hz⟩ := hq
      show wp _ _ 424 [(0, .ref (A 14 0 0)), (1, .int x1), (3, .int y3), (6, .int y6), (7, .int y7), (8, .int y8)] [] _ _ _
      refine w_goto 507 dX14_work_424 rfl ?_
      exact noek hr
    · have hr := bf q345 hr
      refine w_iload 4 dX14_work_348 rfl rfl ?_
      refine w_if_eq 409 dX14_work_350 rfl rfl (fun q350 => ?_) (fun q350 => ?_)
      · have hr := bt q350 hr
        refine w_aload_n 0 dX14_work_409 rfl rfl rfl ?_
        refine w_iload 4 dX14_work_410 rfl rfl ?_
        refine w_iconst 3 dX14_work_412 rfl rfl ?_
        refine w_iload_n 2 dX14_work_413 rfl rfl rfl ?_
        obtain ⟨v105, ρ106, e107, hr⟩ := bw_some hr
        rcases v105 with w109e | w109
        · obtain ⟨rfl, rfl⟩ := rete (bw_er hr)
          refine c_X14_277 (As := [.int y7, .int 3, .int y3]) (rest := []) (fun l => e_X14_must  hz e107 l) hrm dX14_work_414 rfl rfl (Nat.le_of_ble_eq_true rfl) (Nat.le_of_ble_eq_true rfl) (Nat.le_of_ble_eq_true rfl) (hz.o14 rfl) rfl (Nat.le_of_ble_eq_true rfl) (fun vr h2 hq => hq.elim) (fun E9 h9 hq => ?_)
          exact w_out hf (Nat.le_of_ble_eq_true rfl) (Nat.le_of_ble_eq_true rfl) hq
        have hr := bw_ok hr
        refine c_X14_277 (As := [.int y7, .int 3, .int y3]) (rest := []) (fun l => t_X14_must  hz e107 l) hrm dX14_work_414 rfl rfl (Nat.le_of_ble_eq_true rfl) (Nat.le_of_ble_eq_true rfl) (Nat.le_of_ble_eq_true rfl) (hz.o14 rfl) rfl (Nat.le_of_ble_eq_true rfl) (fun vr h2 hq => ?_) (fun E9 h9 hq => hq.elim)
        obtain ⟨rfl, hz⟩ := hq
        show wp _ _ 417 [(0, .ref (A 14 0 0)), (1, .int x1), (3, .int y3), (6, .int y6), (7, .int y7), (8, .int y8)] [] _ _ _
        refine w_aload_n 0 dX14_work_417 rfl rfl rfl ?_
        refine w_iload 3 dX14_work_418 rfl rfl ?_
        refine w_iconst (-1) dX14_work_420 rfl rfl ?_
        obtain ⟨v110, ρ111, e112, hr⟩ := bq_some hr
        refine c_X14_375 (As := [.int y6, .int (-1)]) (rest := []) (fun l => s_X14_sayAll  hz e112 l) hrm dX14_work_421 rfl rfl (Nat.le_of_ble_eq_true rfl) (Nat.le_of_ble_eq_true rfl) (Nat.le_of_ble_eq_true rfl) (hz.o14 rfl) rfl (Nat.le_of_ble_eq_true rfl) (fun vr h2 hq => ?_) (fun E9 h9 hq => hq.elim)
        obtain ⟨rfl, hz⟩ := hq
        show wp _ _ 424 [(0, .ref (A 14 0 0)), (1, .int x1), (3, .int y3), (6, .int y6), (7, .int y7), (8, .int y8)] [] _ _ _
        refine w_goto 507 dX14_work_424 rfl ?_
        exact noek hr
      · have hr := bf q350 hr
        refine w_aload_n 0 dX14_work_353 rfl rfl rfl ?_
        obtain ⟨g115, hr⟩ := gd hr
        have hv114 := hz.ww909 (p := 0) (s := 0) rfl g115
        refine g_X14_232 dX14_work_354 rfl (hz.o14 rfl) (hz.rr909 rfl g115) ?_
        refine g_X14_289 dX14_work_357 rfl (hz.o12 hv114) (hz.r772 hv114) ?_
        refine w_bipush 6 dX14_work_360 rfl rfl ?_
        refine w_iload 3 dX14_work_362 rfl rfl ?_
        refine w_imul dX14_work_364 rfl ?_
        refine w_iload 5 dX14_work_365 rfl rfl ?_
        refine w_iadd dX14_work_367 rfl ?_
        obtain ⟨g116, hr⟩ := gd hr
        refine w_lald dX14_work_368 rfl (hz.k772 hv114) (gin (hz.n772 hv114) g116) (hz.x772 hv114) ?_
        refine w_aload_n 0 dX14_work_369 rfl rfl rfl ?_
        obtain ⟨g118, hr⟩ := gd hr
        have hv117 := hz.ww909 (p := 0) (s := 0) rfl g118
        refine g_X14_232 dX14_work_370 rfl (hz.o14 rfl) (hz.rr909 rfl g118) ?_
        refine g_X14_289 dX14_work_373 rfl (hz.o12 hv117) (hz.r772 hv117) ?_
        refine w_bipush 6 dX14_work_376 rfl rfl ?_
        refine w_aload_n 0 dX14_work_378 rfl rfl rfl ?_
        obtain ⟨g120, hr⟩ := gd hr
        have hv119 := hz.ww909 (p := 0) (s := 0) rfl g120
        refine g_X14_232 dX14_work_379 rfl (hz.o14 rfl) (hz.rr909 rfl g120) ?_
        refine g_X14_326 dX14_work_382 rfl (hz.o12 hv119) (hz.r774 hv119) ?_
        refine w_iload_n 1 dX14_work_385 rfl rfl rfl ?_
        obtain ⟨g121, hr⟩ := gd hr
        refine w_iald dX14_work_386 rfl (hz.k774 hv119) (gin (hz.n774 hv119) g121) (hz.x774 hv119) ?_
        refine w_imul dX14_work_387 rfl ?_
        refine w_iload 5 dX14_work_388 rfl rfl ?_
        refine w_iadd dX14_work_390 rfl ?_
        obtain ⟨g122, hr⟩ := gd hr
        refine w_lald dX14_work_391 rfl (hz.k772 hv117) (gin (hz.n772 hv117) g122) (hz.x772 hv117) ?_
        refine w_lcmp dX14_work_392 rfl ?_
        refine w_if_ne 400 dX14_work_393 rfl rfl (fun q393 => ?_) (fun q393 => ?_)
        · have hr := bf q393 hr
          refine w_iconst 0 dX14_work_400 rfl rfl ?_
          refine w_istore [(7, .int 0), (0, .ref (A 14 0 0)), (1, .int x1), (3, .int y3), (6, .int y6), (8, .int y8)] dX14_work_401 rfl (by decide) rfl ?_
          refine w_iinc 5 (y8 + 1) [(8, .int (y8 + 1)), (7, .int 0), (0, .ref (A 14 0 0)), (1, .int x1), (3, .int y3), (6, .int y6)] dX14_work_403 rfl rfl rfl (by decide) rfl ?_
          refine w_goto 333 dX14_work_406 rfl ?_
          refine w_lv [(0, .ref (A 14 0 0)), (1, .int x1), (3, .int y3), (6, .int y6), (7, .int 0), (8, .int (y8 + 1))] [2, 3, 4, 5, 1, 0] rfl ?_
          exact x_X14_work_333 hf hrm   n y3 y6 0 (y8 + 1) _ _ hz  hr
        · have hr := bt q393 hr
          refine w_iconst 1 dX14_work_396 rfl rfl ?_
          refine w_goto 401 dX14_work_397 rfl ?_
          refine w_istore [(7, .int 1), (0, .ref (A 14 0 0)), (1, .int x1), (3, .int y3), (6, .int y6), (8, .int y8)] dX14_work_401 rfl (by decide) rfl ?_
          refine w_iinc 5 (y8 + 1) [(8, .int (y8 + 1)), (7, .int 1), (0, .ref (A 14 0 0)), (1, .int x1), (3, .int y3), (6, .int y6)] dX14_work_403 rfl rfl rfl (by decide) rfl ?_
          refine w_goto 333 dX14_work_406 rfl ?_
          refine w_lv [(0, .ref (A 14 0 0)), (1, .int x1), (3, .int y3), (6, .int y6), (7, .int 1), (8, .int (y8 + 1))] [2, 3, 4, 5, 1, 0] rfl ?_
          exact x_X14_work_333 hf hrm   n y3 y6 1 (y8 + 1) _ _ hz  hr
set_option maxRecDepth 20000 in
set_option maxHeartbeats 4000000 in
theorem x_X14_work_237 {A : Nat → Nat → Nat → Nat} {σ ρ' : Zs} {v : Int32 × Int32} {x : Cxt} {x1 : Int32}  (hf : m_fin 2 15 QF (XW A v σ ρ') x) (hrm : m_rm 99 2 15 x)  : ∀ (n : Nat) (y6 : Int32) (ρ : Zs) (h : Hp), Rp A h σ ρ → fX14_work_237 x1  n y6 ρ = some (.error v, ρ') → wp x mX14_work 237 [(0, .ref (A 14 0 0)), (1, .int x1), (6, .int y6)] [] h 1 7
  | 0, _, ρ, h => fun hz hr => by
    rw [fX14_work_237.eq_1] at hr
    exact nono hr
  | n + 1, y6, ρ, h => fun hz hr => by
    rw [fX14_work_237.eq_2] at hr
    refine w_aload_n 0 dX14_work_237 rfl rfl rfl ?_
    refine w_bipush 102 dX14_work_238 rfl rfl ?_
    obtain ⟨v133, ρ134, e135, hr⟩ := bq_some hr
    refine c_X14_223 (As := [.int 102]) (rest := []) (fun l => s_X14_is  hz e135 l) hrm dX14_work_240 rfl rfl (Nat.le_of_ble_eq_true rfl) (Nat.le_of_ble_eq_true rfl) (Nat.le_of_ble_eq_true rfl) (hz.o14 rfl) rfl (Nat.le_of_ble_eq_true rfl) (fun vr h2 hq => ?_) (fun E9 h9 hq => hq.elim)
    obtain ⟨rfl, hz⟩ := hq
    show wp _ _ 243 [(0, .ref (A 14 0 0)), (1, .int x1), (6, .int y6)] [.int v133] _ _ _
    refine w_if_eq 259 dX14_work_243 rfl rfl (fun q243 => ?_) (fun q243 => ?_)
    · have hr := bt q243 hr
      refine w_aload_n 0 dX14_work_259 rfl rfl rfl ?_
      refine w_bipush 101 dX14_work_260 rfl rfl ?_
      obtain ⟨v137, ρ138, e139, hr⟩ := bw_some hr
      rcases v137 with w141e | w141
      · obtain ⟨rfl, rfl⟩ := rete (bw_er hr)
        refine c_X14_284 (As := [.int 101]) (rest := []) (fun l => e_X14_take_  hz e139 l) hrm dX14_work_262 rfl rfl (Nat.le_of_ble_eq_true rfl) (Nat.le_of_ble_eq_true rfl) (Nat.le_of_ble_eq_true rfl) (hz.o14 rfl) rfl (Nat.le_of_ble_eq_true rfl) (fun vr h2 hq => hq.elim) (fun E9 h9 hq => ?_)
        exact w_out hf (Nat.le_of_ble_eq_true rfl) (Nat.le_of_ble_eq_true rfl) hq
      have hr := bw_ok hr
      refine c_X14_284 (As := [.int 101]) (rest := []) (fun l => t_X14_take_  hz e139 l) hrm dX14_work_262 rfl rfl (Nat.le_of_ble_eq_true rfl) (Nat.le_of_ble_eq_true rfl) (Nat.le_of_ble_eq_true rfl) (hz.o14 rfl) rfl (Nat.le_of_ble_eq_true rfl) (fun vr h2 hq => ?_) (fun E9 h9 hq => hq.elim)
      obtain ⟨rfl, hz⟩ := hq
      show wp _ _ 265 [(0, .ref (A 14 0 0)), (1, .int x1), (6, .int y6)] [] _ _ _
      refine w_goto 507 dX14_work_265 rfl ?_
      exact noek hr
    · have hr := bf q243 hr
      refine w_aload_n 0 dX14_work_246 rfl rfl rfl ?_
      obtain ⟨v142, ρ143, e144, hr⟩ := bw_some hr
      rcases v142 with w146e | w146
      · obtain ⟨rfl, rfl⟩ := rete (bw_er hr)
        refine c_X14_226 (As := []) (rest := []) (fun l => e_X14_take  hz e144 l) hrm dX14_work_247 rfl rfl (Nat.le_of_ble_eq_true rfl) (Nat.le_of_ble_eq_true rfl) (Nat.le_of_ble_eq_true rfl) (hz.o14 rfl) rfl (Nat.le_of_ble_eq_true rfl) (fun vr h2 hq => hq.elim) (fun E9 h9 hq => ?_)
        exact w_out hf (Nat.le_of_ble_eq_true rfl) (Nat.le_of_ble_eq_true rfl) hq
      have hr := bw_ok hr
      refine c_X14_226 (As := []) (rest := []) (fun l => t_X14_take  hz e144 l) hrm dX14_work_247 rfl rfl (Nat.le_of_ble_eq_true rfl) (Nat.le_of_ble_eq_true rfl) (Nat.le_of_ble_eq_true rfl) (hz.o14 rfl) rfl (Nat.le_of_ble_eq_true rfl) (fun vr h2 hq => ?_) (fun E9 h9 hq => hq.elim)
      obtain ⟨rfl, hz⟩ := hq
      show wp _ _ 250 [(0, .ref (A 14 0 0)), (1, .int x1), (6, .int y6)] [] _ _ _
      refine w_aload_n 0 dX14_work_250 rfl rfl rfl ?_
      refine w_iload 2 dX14_work_251 rfl rfl ?_
      obtain ⟨v147, ρ148, e149, hr⟩ := bw_some hr
      rcases v147 with w151e | w151
      · obtain ⟨rfl, rfl⟩ := rete (bw_er hr)
        refine c_X14_381 (As := [.int y6]) (rest := []) (fun l => e_X14_pickOne  hz e149 l) hrm dX14_work_253 rfl rfl (Nat.le_of_ble_eq_true rfl) (Nat.le_of_ble_eq_true rfl) (Nat.le_of_ble_eq_true rfl) (hz.o14 rfl) rfl (Nat.le_of_ble_eq_true rfl) (fun vr h2 hq => hq.elim) (fun E9 h9 hq => ?_)
        exact w_out hf (Nat.le_of_ble_eq_true rfl) (Nat.le_of_ble_eq_true rfl) hq
      have hr := bw_ok hr
      refine c_X14_381 (As := [.int y6]) (rest := []) (fun l => t_X14_pickOne  hz e149 l) hrm dX14_work_253 rfl rfl (Nat.le_of_ble_eq_true rfl) (Nat.le_of_ble_eq_true rfl) (Nat.le_of_ble_eq_true rfl) (hz.o14 rfl) rfl (Nat.le_of_ble_eq_true rfl) (fun vr h2 hq => ?_) (fun E9 h9 hq => hq.elim)
      obtain ⟨rfl, hz⟩ := hq
      show wp _ _ 256 [(0, .ref (A 14 0 0)), (1, .int x1), (6, .int y6)] [] _ _ _
      refine w_goto 237 dX14_work_256 rfl ?_
      refine w_lv [(0, .ref (A 14 0 0)), (1, .int x1), (6, .int y6)] [0, 1, 2] rfl ?_
      exact x_X14_work_237 hf hrm   n y6 _ _ hz  hr
set_option maxRecDepth 20000 in
set_option maxHeartbeats 4000000 in
theorem x_X14_work_199 {A : Nat → Nat → Nat → Nat} {σ ρ' : Zs} {v : Int32 × Int32} {x : Cxt} {x1 : Int32}  (hf : m_fin 2 15 QF (XW A v σ ρ') x) (hrm : m_rm 99 2 15 x)  : ∀ (n : Nat) (ρ : Zs) (h : Hp), Rp A h σ ρ → fX14_work_199 x1  n  ρ = some (.error v, ρ') → wp x mX14_work 199 [(0, .ref (A 14 0 0)), (1, .int x1)] [] h 1 7
  | 0, ρ, h => fun hz hr => by
    rw [fX14_work_199.eq_1] at hr
    exact nono hr
  | n + 1, ρ, h => fun hz hr => by
    rw [fX14_work_199.eq_2] at hr
    refine w_aload_n 0 dX14_work_199 rfl rfl rfl ?_
    refine w_bipush 102 dX14_work_200 rfl rfl ?_
    obtain ⟨v166, ρ167, e168, hr⟩ := bq_some hr
    refine c_X14_223 (As := [.int 102]) (rest := []) (fun l => s_X14_is  hz e168 l) hrm dX14_work_202 rfl rfl (Nat.le_of_ble_eq_true rfl) (Nat.le_of_ble_eq_true rfl) (Nat.le_of_ble_eq_true rfl) (hz.o14 rfl) rfl (Nat.le_of_ble_eq_true rfl) (fun vr h2 hq => ?_) (fun E9 h9 hq => hq.elim)
    obtain ⟨rfl, hz⟩ := hq
    show wp _ _ 205 [(0, .ref (A 14 0 0)), (1, .int x1)] [.int v166] _ _ _
    refine w_if_eq 507 dX14_work_205 rfl rfl (fun q205 => ?_) (fun q205 => ?_)
    · have hr := bt q205 hr
      exact noek hr
    · have hr := bf q205 hr
      refine w_aload_n 0 dX14_work_208 rfl rfl rfl ?_
      obtain ⟨v170, ρ171, e172, hr⟩ := bw_some hr
      rcases v170 with w174e | w174
      · obtain ⟨rfl, rfl⟩ := rete (bw_er hr)
        refine c_X14_226 (As := []) (rest := []) (fun l => e_X14_take  hz e172 l) hrm dX14_work_209 rfl rfl (Nat.le_of_ble_eq_true rfl) (Nat.le_of_ble_eq_true rfl) (Nat.le_of_ble_eq_true rfl) (hz.o14 rfl) rfl (Nat.le_of_ble_eq_true rfl) (fun vr h2 hq => hq.elim) (fun E9 h9 hq => ?_)
        exact w_out hf (Nat.le_of_ble_eq_true rfl) (Nat.le_of_ble_eq_true rfl) hq
      have hr := bw_ok hr
      refine c_X14_226 (As := []) (rest := []) (fun l => t_X14_take  hz e172 l) hrm dX14_work_209 rfl rfl (Nat.le_of_ble_eq_true rfl) (Nat.le_of_ble_eq_true rfl) (Nat.le_of_ble_eq_true rfl) (hz.o14 rfl) rfl (Nat.le_of_ble_eq_true rfl) (fun vr h2 hq => ?_) (fun E9 h9 hq => hq.elim)
      obtain ⟨rfl, hz⟩ := hq
      show wp _ _ 212 [(0, .ref (A 14 0 0)), (1, .int x1)] [] _ _ _
      refine w_aload_n 0 dX14_work_212 rfl rfl rfl ?_
      obtain ⟨v175, ρ176, e177, hr⟩ := bw_some hr
      rcases v175 with w179e | w179
      · obtain ⟨rfl, rfl⟩ := rete (bw_er hr)
        refine c_X14_378 (As := []) (rest := []) (fun l => e_X14_makeOne  hz e177 l) hrm dX14_work_213 rfl rfl (Nat.le_of_ble_eq_true rfl) (Nat.le_of_ble_eq_true rfl) (Nat.le_of_ble_eq_true rfl) (hz.o14 rfl) rfl (Nat.le_of_ble_eq_true rfl) (fun vr h2 hq => hq.elim) (fun E9 h9 hq => ?_)
        exact w_out hf (Nat.le_of_ble_eq_true rfl) (Nat.le_of_ble_eq_true rfl) hq
      have hr := bw_ok hr
      refine c_X14_378 (As := []) (rest := []) (fun l => t_X14_makeOne  hz e177 l) hrm dX14_work_213 rfl rfl (Nat.le_of_ble_eq_true rfl) (Nat.le_of_ble_eq_true rfl) (Nat.le_of_ble_eq_true rfl) (hz.o14 rfl) rfl (Nat.le_of_ble_eq_true rfl) (fun vr h2 hq => ?_) (fun E9 h9 hq => hq.elim)
      obtain ⟨rfl, hz⟩ := hq
      show wp _ _ 216 [(0, .ref (A 14 0 0)), (1, .int x1)] [] _ _ _
      refine w_goto 199 dX14_work_216 rfl ?_
      refine w_lv [(0, .ref (A 14 0 0)), (1, .int x1)] [0, 1] rfl ?_
      exact x_X14_work_199 hf hrm   n  _ _ hz  hr
set_option maxRecDepth 20000 in
set_option maxHeartbeats 4000000 in
theorem e_X14_work {A : Nat → Nat → Nat → Nat} {h : Hp} {σ ρ ρ' : Zs} {v : Int32 × Int32} {x1 : Int32}  (hz : Rp A h σ ρ) (hr : fX14_work x1 ρ = some (.error v, ρ')) : ∀ l : Launch, Sp l mX14_work 99 2 15 [.ref (A 14 0 0), .int x1] h QF (XW A v σ ρ') := by
  intro l
  refine Sp.of rfl rfl (lv := [(0, .ref (A 14 0 0)), (1, .int x1)]) (Nat.le_of_ble_eq_true rfl) rfl (fun x hf hrm => ?_)
  rw [fX14_work.eq_1] at hr
  refine w_aload_n 0 dX14_work_0 rfl rfl rfl ?_
  refine g_X14_24 dX14_work_1 rfl (hz.o14 rfl) (hz.r902 rfl) ?_
  refine w_aload_n 0 dX14_work_4 rfl rfl rfl ?_
  refine g_X14_204 dX14_work_5 rfl (hz.o14 rfl) (hz.i905 rfl) ?_
  obtain ⟨g1, hr⟩ := gd hr
  refine w_iald dX14_work_8 rfl (hz.k902 rfl) (gin (hz.n902 rfl) g1) (hz.x902 rfl) ?_
  refine w_istore_n [(2, .int (zI ρ 1926 0 0 (Int32.toNatClampNeg (zI ρ 905 0 0 0)))), (0, .ref (A 14 0 0)), (1, .int x1)] dX14_work_9 rfl rfl (by decide) rfl ?_
  refine w_aload_n 1 dX14_work_10 rfl rfl rfl ?_
  refine g_X14_27 dX14_work_11 rfl (hz.o14 rfl) (hz.r903 rfl) ?_
  refine w_aload_n 1 dX14_work_14 rfl rfl rfl ?_
  refine g_X14_204 dX14_work_15 rfl (hz.o14 rfl) (hz.i905 rfl) ?_
  obtain ⟨g2, hr⟩ := gd hr
  refine w_iald dX14_work_18 rfl (hz.k903 rfl) (gin (hz.n903 rfl) g2) (hz.x903 rfl) ?_
  refine w_istore_n [(3, .int (zI ρ 1927 0 0 (Int32.toNatClampNeg (zI ρ 905 0 0 0)))), (2, .int (zI ρ 1926 0 0 (Int32.toNatClampNeg (zI ρ 905 0 0 0)))), (0, .ref (A 14 0 0)), (1, .int x1)] dX14_work_19 rfl rfl (by decide) rfl ?_
  refine works_row hrm hz (Nat.le_of_ble_eq_true rfl) (Nat.le_of_ble_eq_true rfl) (fun h3 hz => ?_)
  refine w_iload 4 dX14_work_93 rfl rfl ?_
  refine w_iconst (-1) dX14_work_95 rfl rfl ?_
  refine w_icmp_ne 104 dX14_work_96 rfl rfl (fun q96 => ?_) (fun q96 => ?_)
  · have hr := bf q96 hr
    refine w_aload_n 0 dX14_work_104 rfl rfl rfl ?_
    obtain ⟨v3, ρ4, e5, hr⟩ := bw_some hr
    rcases v3 with w7e | w7
    · obtain ⟨rfl, rfl⟩ := rete (bw_er hr)
      refine c_X14_226 (As := []) (rest := []) (fun l => e_X14_take  hz e5 l) hrm dX14_work_105 rfl rfl (Nat.le_of_ble_eq_true rfl) (Nat.le_of_ble_eq_true rfl) (Nat.le_of_ble_eq_true rfl) (hz.o14 rfl) rfl (Nat.le_of_ble_eq_true rfl) (fun vr h2 hq => hq.elim) (fun E9 h9 hq => ?_)
      exact w_out hf (Nat.le_of_ble_eq_true rfl) (Nat.le_of_ble_eq_true rfl) hq
    have hr := bw_ok hr
    refine c_X14_226 (As := []) (rest := []) (fun l => t_X14_take  hz e5 l) hrm dX14_work_105 rfl rfl (Nat.le_of_ble_eq_true rfl) (Nat.le_of_ble_eq_true rfl) (Nat.le_of_ble_eq_true rfl) (hz.o14 rfl) rfl (Nat.le_of_ble_eq_true rfl) (fun vr h2 hq => ?_) (fun E9 h9 hq => hq.elim)
    obtain ⟨rfl, hz⟩ := hq
    show wp _ _ 108 [(0, .ref (A 14 0 0)), (1, .int x1), (2, .int (zI ρ 1926 0 0 (Int32.toNatClampNeg (zI ρ 905 0 0 0)))), (3, .int (zI ρ 1927 0 0 (Int32.toNatClampNeg (zI ρ 905 0 0 0)))), (5, .int (wkj 7 (zI ρ 1926 0 0 (Int32.toNatClampNeg (zI ρ 905 0 0 0)))))] [] _ _ _
    refine w_aload_n 0 dX14_work_108 rfl rfl rfl ?_
    obtain ⟨v8, ρ9, e10, hr⟩ := bw_some hr
    rcases v8 with w12e | w12
    · obtain ⟨rfl, rfl⟩ := rete (bw_er hr)
      refine c_X14_344 (As := []) (rest := []) (fun l => e_X14_streamNamed  hz e10 l) hrm dX14_work_109 rfl rfl (Nat.le_of_ble_eq_true rfl) (Nat.le_of_ble_eq_true rfl) (Nat.le_of_ble_eq_true rfl) (hz.o14 rfl) rfl (Nat.le_of_ble_eq_true rfl) (fun vr h2 hq => hq.elim) (fun E9 h9 hq => ?_)
      exact w_out hf (Nat.le_of_ble_eq_true rfl) (Nat.le_of_ble_eq_true rfl) hq
    have hr := bw_ok hr
    refine c_X14_344 (As := []) (rest := []) (fun l => t_X14_streamNamed  hz e10 l) hrm dX14_work_109 rfl rfl (Nat.le_of_ble_eq_true rfl) (Nat.le_of_ble_eq_true rfl) (Nat.le_of_ble_eq_true rfl) (hz.o14 rfl) rfl (Nat.le_of_ble_eq_true rfl) (fun vr h2 hq => ?_) (fun E9 h9 hq => hq.elim)
    obtain ⟨rfl, hz⟩ := hq
    show wp _ _ 112 [(0, .ref (A 14 0 0)), (1, .int x1), (2, .int (zI ρ 1926 0 0 (Int32.toNatClampNeg (zI ρ 905 0 0 0)))), (3, .int (zI ρ 1927 0 0 (Int32.toNatClampNeg (zI ρ 905 0 0 0)))), (5, .int (wkj 7 (zI ρ 1926 0 0 (Int32.toNatClampNeg (zI ρ 905 0 0 0)))))] [.int w12] _ _ _
    refine w_istore [(6, .int w12), (0, .ref (A 14 0 0)), (1, .int x1), (2, .int (zI ρ 1926 0 0 (Int32.toNatClampNeg (zI ρ 905 0 0 0)))), (3, .int (zI ρ 1927 0 0 (Int32.toNatClampNeg (zI ρ 905 0 0 0)))), (5, .int (wkj 7 (zI ρ 1926 0 0 (Int32.toNatClampNeg (zI ρ 905 0 0 0)))))] dX14_work_112 rfl (by decide) rfl ?_
    refine w_aload_n 1 dX14_work_114 rfl rfl rfl ?_
    obtain ⟨g14, hr⟩ := gd hr
    have hv13 := hz.ww909 (p := 0) (s := 0) rfl g14
    refine g_X14_232 dX14_work_115 rfl (hz.o14 rfl) (hz.rr909 rfl g14) ?_
    refine g_X14_368 dX14_work_118 rfl (hz.o12 hv13) (hz.r770 hv13) ?_
    refine w_iload_n 2 dX14_work_121 rfl rfl rfl ?_
    refine w_iload 5 dX14_work_122 rfl rfl ?_
    refine w_iconst 1 dX14_work_124 rfl rfl ?_
    refine w_iadd dX14_work_125 rfl ?_
    obtain ⟨g15, hr⟩ := gd hr
    refine w_iast dX14_work_126 rfl (hz.k770 hv13) (gin (hz.n770 hv13) g15) ?_
    obtain ⟨ρ16, e17, hr⟩ := lt_e hr
    have hz := (hz.s770 (i := (Int32.toNatClampNeg x1)) (v := ((wkj 7 (zI ρ 1926 0 0 (Int32.toNatClampNeg (zI ρ 905 0 0 0)))) + 1)) hv13).tr e17
    refine w_aload_n 1 dX14_work_127 rfl rfl rfl ?_
    obtain ⟨g19, hr⟩ := gd hr
    have hv18 := hz.ww909 (p := 0) (s := 0) rfl g19
    refine g_X14_232 dX14_work_128 rfl (hz.o14 rfl) (hz.rr909 rfl g19) ?_
    refine g_X14_323 dX14_work_131 rfl (hz.o12 hv18) (hz.r773 hv18) ?_
    refine w_iload_n 2 dX14_work_134 rfl rfl rfl ?_
    refine w_iload 0 dX14_work_135 rfl rfl ?_
    obtain ⟨g20, hr⟩ := gd hr
    refine w_iast dX14_work_137 rfl (hz.k773 hv18) (gin (hz.n773 hv18) g20) ?_
    obtain ⟨ρ21, e22, hr⟩ := lt_e hr
    have hz := (hz.s773 (i := (Int32.toNatClampNeg x1)) (v := w12) hv18).tr e22
    refine w_aload_n 1 dX14_work_138 rfl rfl rfl ?_
    refine w_iload 0 dX14_work_139 rfl rfl ?_
    refine p_X14_270 dX14_work_141 rfl (hz.o14 rfl) ?_
    obtain ⟨ρ23, e24, hr⟩ := lt_e hr
    have hz := (hz.s910 (v := w12) rfl).tr e24
    refine w_iload_n 3 dX14_work_144 rfl rfl rfl ?_
    refine w_iconst 3 dX14_work_145 rfl rfl ?_
    refine w_icmp_ne 177 dX14_work_146 rfl rfl (fun q146 => ?_) (fun q146 => ?_)
    · have hr := bf q146 hr
      refine w_iload_n 3 dX14_work_177 rfl rfl rfl ?_
      refine w_iconst 5 dX14_work_178 rfl rfl ?_
      refine w_icmp_ne 219 dX14_work_179 rfl rfl (fun q179 => ?_) (fun q179 => ?_)
      · have hr := bf q179 hr
        refine w_iload_n 3 dX14_work_219 rfl rfl rfl ?_
        refine w_bipush 7 dX14_work_220 rfl rfl ?_
        refine w_icmp_ne 268 dX14_work_222 rfl rfl (fun q222 => ?_) (fun q222 => ?_)
        · have hr := bf q222 hr
          refine w_iload_n 3 dX14_work_268 rfl rfl rfl ?_
          refine w_bipush 8 dX14_work_269 rfl rfl ?_
          refine w_icmp_ne 427 dX14_work_271 rfl rfl (fun q271 => ?_) (fun q271 => ?_)
          · have hr := bf q271 hr
            refine w_iload_n 3 dX14_work_427 rfl rfl rfl ?_
            refine w_bipush 9 dX14_work_428 rfl rfl ?_
            refine w_icmp_ne 443 dX14_work_430 rfl rfl (fun q430 => ?_) (fun q430 => ?_)
            · have hr := bf q430 hr
              refine w_iload_n 3 dX14_work_443 rfl rfl rfl ?_
              refine w_bipush 12 dX14_work_444 rfl rfl ?_
              refine w_icmp_ne 500 dX14_work_446 rfl rfl (fun q446 => ?_) (fun q446 => ?_)
              · have hr := bf q446 hr
                refine w_aload_n 1 dX14_work_500 rfl rfl rfl ?_
                refine w_iload_n 2 dX14_work_501 rfl rfl rfl ?_
                refine w_iload 0 dX14_work_502 rfl rfl ?_
                obtain ⟨v25, ρ26, e27, hr⟩ := bw_some hr
                rcases v25 with w29e | w29
                · obtain ⟨rfl, rfl⟩ := rete (bw_er hr)
                  refine c_X14_393 (As := [.int x1, .int w12]) (rest := []) (fun l => e_X14_window  hz e27 l) hrm dX14_work_504 rfl rfl (Nat.le_of_ble_eq_true rfl) (Nat.le_of_ble_eq_true rfl) (Nat.le_of_ble_eq_true rfl) (hz.o14 rfl) rfl (Nat.le_of_ble_eq_true rfl) (fun vr h2 hq => hq.elim) (fun E9 h9 hq => ?_)
                  exact w_out hf (Nat.le_of_ble_eq_true rfl) (Nat.le_of_ble_eq_true rfl) hq
                have hr := bw_ok hr
                refine c_X14_393 (As := [.int x1, .int w12]) (rest := []) (fun l => t_X14_window  hz e27 l) hrm dX14_work_504 rfl rfl (Nat.le_of_ble_eq_true rfl) (Nat.le_of_ble_eq_true rfl) (Nat.le_of_ble_eq_true rfl) (hz.o14 rfl) rfl (Nat.le_of_ble_eq_true rfl) (fun vr h2 hq => ?_) (fun E9 h9 hq => hq.elim)
                obtain ⟨rfl, hz⟩ := hq
                show wp _ _ 507 [(6, .int w12), (0, .ref (A 14 0 0)), (1, .int x1), (2, .int (zI ρ 1926 0 0 (Int32.toNatClampNeg (zI ρ 905 0 0 0)))), (3, .int (zI ρ 1927 0 0 (Int32.toNatClampNeg (zI ρ 905 0 0 0)))), (5, .int (wkj 7 (zI ρ 1926 0 0 (Int32.toNatClampNeg (zI ρ 905 0 0 0)))))] [] _ _ _
                exact noek hr
              · have hr := bt q446 hr
                refine w_aload_n 1 dX14_work_449 rfl rfl rfl ?_
                refine w_bipush 13 dX14_work_450 rfl rfl ?_
                obtain ⟨v30, ρ31, e32, hr⟩ := bw_some hr
                rcases v30 with w34e | w34
                · obtain ⟨rfl, rfl⟩ := rete (bw_er hr)
                  refine c_X14_284 (As := [.int 13]) (rest := []) (fun l => e_X14_take_  hz e32 l) hrm dX14_work_452 rfl rfl (Nat.le_of_ble_eq_true rfl) (Nat.le_of_ble_eq_true rfl) (Nat.le_of_ble_eq_true rfl) (hz.o14 rfl) rfl (Nat.le_of_ble_eq_true rfl) (fun vr h2 hq => hq.elim) (fun E9 h9 hq => ?_)
                  exact w_out hf (Nat.le_of_ble_eq_true rfl) (Nat.le_of_ble_eq_true rfl) hq
                have hr := bw_ok hr
                refine c_X14_284 (As := [.int 13]) (rest := []) (fun l => t_X14_take_  hz e32 l) hrm dX14_work_452 rfl rfl (Nat.le_of_ble_eq_true rfl) (Nat.le_of_ble_eq_true rfl) (Nat.le_of_ble_eq_true rfl) (hz.o14 rfl) rfl (Nat.le_of_ble_eq_true rfl) (fun vr h2 hq => ?_) (fun E9 h9 hq => hq.elim)
                obtain ⟨rfl, hz⟩ := hq
                show wp _ _ 455 [(6, .int w12), (0, .ref (A 14 0 0)), (1, .int x1), (2, .int (zI ρ 1926 0 0 (Int32.toNatClampNeg (zI ρ 905 0 0 0)))), (3, .int (zI ρ 1927 0 0 (Int32.toNatClampNeg (zI ρ 905 0 0 0)))), (5, .int (wkj 7 (zI ρ 1926 0 0 (Int32.toNatClampNeg (zI ρ 905 0 0 0)))))] [] _ _ _
                refine w_aload_n 1 dX14_work_455 rfl rfl rfl ?_
                obtain ⟨g36, hr⟩ := gd hr
                have hv35 := hz.ww909 (p := 0) (s := 0) rfl g36
                refine g_X14_232 dX14_work_456 rfl (hz.o14 rfl) (hz.rr909 rfl g36) ?_
                refine g_X14_387 dX14_work_459 rfl (hz.o12 hv35) (hz.r777 hv35) ?_
                refine w_iload_n 2 dX14_work_462 rfl rfl rfl ?_
                refine w_aload_n 1 dX14_work_463 rfl rfl rfl ?_
                refine w_iload 0 dX14_work_464 rfl rfl ?_
                obtain ⟨v37, ρ38, e39, hr⟩ := bw_some hr
                rcases v37 with w41e | w41
                · obtain ⟨rfl, rfl⟩ := rete (bw_er hr)
                  refine c_X14_390 (As := [.int w12]) (rest := [.int x1, .ref (A 1801 (zR ρ31 909 0 0 0).1 0)]) (fun l => e_X14_columnNamed  hz e39 l) hrm dX14_work_466 rfl rfl (Nat.le_of_ble_eq_true rfl) (Nat.le_of_ble_eq_true rfl) (Nat.le_of_ble_eq_true rfl) (hz.o14 rfl) rfl (Nat.le_of_ble_eq_true rfl) (fun vr h2 hq => hq.elim) (fun E9 h9 hq => ?_)
                  exact w_out hf (Nat.le_of_ble_eq_true rfl) (Nat.le_of_ble_eq_true rfl) hq
                have hr := bw_ok hr
                refine c_X14_390 (As := [.int w12]) (rest := [.int x1, .ref (A 1801 (zR ρ31 909 0 0 0).1 0)]) (fun l => t_X14_columnNamed  hz e39 l) hrm dX14_work_466 rfl rfl (Nat.le_of_ble_eq_true rfl) (Nat.le_of_ble_eq_true rfl) (Nat.le_of_ble_eq_true rfl) (hz.o14 rfl) rfl (Nat.le_of_ble_eq_true rfl) (fun vr h2 hq => ?_) (fun E9 h9 hq => hq.elim)
                obtain ⟨rfl, hz⟩ := hq
                show wp _ _ 469 [(6, .int w12), (0, .ref (A 14 0 0)), (1, .int x1), (2, .int (zI ρ 1926 0 0 (Int32.toNatClampNeg (zI ρ 905 0 0 0)))), (3, .int (zI ρ 1927 0 0 (Int32.toNatClampNeg (zI ρ 905 0 0 0)))), (5, .int (wkj 7 (zI ρ 1926 0 0 (Int32.toNatClampNeg (zI ρ 905 0 0 0)))))] [.int w41, .int x1, .ref (A 1801 (zR ρ31 909 0 0 0).1 0)] _ _ _
                obtain ⟨g42, hr⟩ := gd hr
                refine w_iast dX14_work_469 rfl (hz.k777 hv35) (gin (hz.n777 hv35) g42) ?_
                obtain ⟨ρ43, e44, hr⟩ := lt_e hr
                have hz := (hz.s777 (i := (Int32.toNatClampNeg x1)) (v := w41) hv35).tr e44
                refine w_aload_n 1 dX14_work_470 rfl rfl rfl ?_
                refine w_bipush 11 dX14_work_471 rfl rfl ?_
                obtain ⟨v45, ρ46, e47, hr⟩ := bw_some hr
                rcases v45 with w49e | w49
                · obtain ⟨rfl, rfl⟩ := rete (bw_er hr)
                  refine c_X14_284 (As := [.int 11]) (rest := []) (fun l => e_X14_take_  hz e47 l) hrm dX14_work_473 rfl rfl (Nat.le_of_ble_eq_true rfl) (Nat.le_of_ble_eq_true rfl) (Nat.le_of_ble_eq_true rfl) (hz.o14 rfl) rfl (Nat.le_of_ble_eq_true rfl) (fun vr h2 hq => hq.elim) (fun E9 h9 hq => ?_)
                  exact w_out hf (Nat.le_of_ble_eq_true rfl) (Nat.le_of_ble_eq_true rfl) hq
                have hr := bw_ok hr
                refine c_X14_284 (As := [.int 11]) (rest := []) (fun l => t_X14_take_  hz e47 l) hrm dX14_work_473 rfl rfl (Nat.le_of_ble_eq_true rfl) (Nat.le_of_ble_eq_true rfl) (Nat.le_of_ble_eq_true rfl) (hz.o14 rfl) rfl (Nat.le_of_ble_eq_true rfl) (fun vr h2 hq => ?_) (fun E9 h9 hq => hq.elim)
                obtain ⟨rfl, hz⟩ := hq
                show wp _ _ 476 [(6, .int w12), (0, .ref (A 14 0 0)), (1, .int x1), (2, .int (zI ρ 1926 0 0 (Int32.toNatClampNeg (zI ρ 905 0 0 0)))), (3, .int (zI ρ 1927 0 0 (Int32.toNatClampNeg (zI ρ 905 0 0 0)))), (5, .int (wkj 7 (zI ρ 1926 0 0 (Int32.toNatClampNeg (zI ρ 905 0 0 0)))))] [] _ _ _
                refine w_aload_n 1 dX14_work_476 rfl rfl rfl ?_
                obtain ⟨g51, hr⟩ := gd hr
                have hv50 := hz.ww909 (p := 0) (s := 0) rfl g51
                refine g_X14_232 dX14_work_477 rfl (hz.o14 rfl) (hz.rr909 rfl g51) ?_
                refine g_X14_369 dX14_work_480 rfl (hz.o12 hv50) (hz.r775 hv50) ?_
                refine w_iload_n 2 dX14_work_483 rfl rfl rfl ?_
                refine w_aload_n 1 dX14_work_484 rfl rfl rfl ?_
                refine w_iconst 0 dX14_work_485 rfl rfl ?_
                obtain ⟨v52, ρ53, e54, hr⟩ := bw_some hr
                rcases v52 with w56e | w56
                · obtain ⟨rfl, rfl⟩ := rete (bw_er hr)
                  refine c_X14_372 (As := [.int 0]) (rest := [.int x1, .ref (A 1799 (zR ρ46 909 0 0 0).1 0)]) (fun l => e_X14_numberIn  hz e54 l) hrm dX14_work_486 rfl rfl (Nat.le_of_ble_eq_true rfl) (Nat.le_of_ble_eq_true rfl) (Nat.le_of_ble_eq_true rfl) (hz.o14 rfl) rfl (Nat.le_of_ble_eq_true rfl) (fun vr h2 hq => hq.elim) (fun E9 h9 hq => ?_)
                  exact w_out hf (Nat.le_of_ble_eq_true rfl) (Nat.le_of_ble_eq_true rfl) hq
                have hr := bw_ok hr
                refine c_X14_372 (As := [.int 0]) (rest := [.int x1, .ref (A 1799 (zR ρ46 909 0 0 0).1 0)]) (fun l => t_X14_numberIn  hz e54 l) hrm dX14_work_486 rfl rfl (Nat.le_of_ble_eq_true rfl) (Nat.le_of_ble_eq_true rfl) (Nat.le_of_ble_eq_true rfl) (hz.o14 rfl) rfl (Nat.le_of_ble_eq_true rfl) (fun vr h2 hq => ?_) (fun E9 h9 hq => hq.elim)
                obtain ⟨rfl, hz⟩ := hq
                show wp _ _ 489 [(6, .int w12), (0, .ref (A 14 0 0)), (1, .int x1), (2, .int (zI ρ 1926 0 0 (Int32.toNatClampNeg (zI ρ 905 0 0 0)))), (3, .int (zI ρ 1927 0 0 (Int32.toNatClampNeg (zI ρ 905 0 0 0)))), (5, .int (wkj 7 (zI ρ 1926 0 0 (Int32.toNatClampNeg (zI ρ 905 0 0 0)))))] [.int w56, .int x1, .ref (A 1799 (zR ρ46 909 0 0 0).1 0)] _ _ _
                obtain ⟨g57, hr⟩ := gd hr
                refine w_iast dX14_work_489 rfl (hz.k775 hv50) (gin (hz.n775 hv50) g57) ?_
                obtain ⟨ρ58, e59, hr⟩ := lt_e hr
                have hz := (hz.s775 (i := (Int32.toNatClampNeg x1)) (v := w56) hv50).tr e59
                refine w_aload_n 1 dX14_work_490 rfl rfl rfl ?_
                refine w_iload 0 dX14_work_491 rfl rfl ?_
                refine w_iconst (-1) dX14_work_493 rfl rfl ?_
                obtain ⟨v60, ρ61, e62, hr⟩ := bq_some hr
                refine c_X14_375 (As := [.int w12, .int (-1)]) (rest := []) (fun l => s_X14_sayAll  hz e62 l) hrm dX14_work_494 rfl rfl (Nat.le_of_ble_eq_true rfl) (Nat.le_of_ble_eq_true rfl) (Nat.le_of_ble_eq_true rfl) (hz.o14 rfl) rfl (Nat.le_of_ble_eq_true rfl) (fun vr h2 hq => ?_) (fun E9 h9 hq => hq.elim)
                obtain ⟨rfl, hz⟩ := hq
                show wp _ _ 497 [(6, .int w12), (0, .ref (A 14 0 0)), (1, .int x1), (2, .int (zI ρ 1926 0 0 (Int32.toNatClampNeg (zI ρ 905 0 0 0)))), (3, .int (zI ρ 1927 0 0 (Int32.toNatClampNeg (zI ρ 905 0 0 0)))), (5, .int (wkj 7 (zI ρ 1926 0 0 (Int32.toNatClampNeg (zI ρ 905 0 0 0)))))] [] _ _ _
                refine w_goto 507 dX14_work_497 rfl ?_
                exact noek hr
            · have hr := bt q430 hr
              refine w_aload_n 1 dX14_work_433 rfl rfl rfl ?_
              refine w_iload_n 2 dX14_work_434 rfl rfl rfl ?_
              refine w_iload 0 dX14_work_435 rfl rfl ?_
              obtain ⟨v64, ρ65, e66, hr⟩ := bw_some hr
              rcases v64 with w68e | w68
              · obtain ⟨rfl, rfl⟩ := rete (bw_er hr)
                refine c_X14_384 (As := [.int x1, .int w12]) (rest := []) (fun l => e_X14_join  hz e66 l) hrm dX14_work_437 rfl rfl (Nat.le_of_ble_eq_true rfl) (Nat.le_of_ble_eq_true rfl) (Nat.le_of_ble_eq_true rfl) (hz.o14 rfl) rfl (Nat.le_of_ble_eq_true rfl) (fun vr h2 hq => hq.elim) (fun E9 h9 hq => ?_)
                exact w_out hf (Nat.le_of_ble_eq_true rfl) (Nat.le_of_ble_eq_true rfl) hq
              have hr := bw_ok hr
              refine c_X14_384 (As := [.int x1, .int w12]) (rest := []) (fun l => t_X14_join  hz e66 l) hrm dX14_work_437 rfl rfl (Nat.le_of_ble_eq_true rfl) (Nat.le_of_ble_eq_true rfl) (Nat.le_of_ble_eq_true rfl) (hz.o14 rfl) rfl (Nat.le_of_ble_eq_true rfl) (fun vr h2 hq => ?_) (fun E9 h9 hq => hq.elim)
              obtain ⟨rfl, hz⟩ := hq
              show wp _ _ 440 [(6, .int w12), (0, .ref (A 14 0 0)), (1, .int x1), (2, .int (zI ρ 1926 0 0 (Int32.toNatClampNeg (zI ρ 905 0 0 0)))), (3, .int (zI ρ 1927 0 0 (Int32.toNatClampNeg (zI ρ 905 0 0 0)))), (5, .int (wkj 7 (zI ρ 1926 0 0 (Int32.toNatClampNeg (zI ρ 905 0 0 0)))))] [] _ _ _
              refine w_goto 507 dX14_work_440 rfl ?_
              exact noek hr
          · have hr := bt q271 hr
            refine w_aload_n 1 dX14_work_274 rfl rfl rfl ?_
            refine w_bipush 102 dX14_work_275 rfl rfl ?_
            obtain ⟨v69, ρ70, e71, hr⟩ := bw_some hr
            rcases v69 with w73e | w73
            · obtain ⟨rfl, rfl⟩ := rete (bw_er hr)
              refine c_X14_284 (As := [.int 102]) (rest := []) (fun l => e_X14_take_  hz e71 l) hrm dX14_work_277 rfl rfl (Nat.le_of_ble_eq_true rfl) (Nat.le_of_ble_eq_true rfl) (Nat.le_of_ble_eq_true rfl) (hz.o14 rfl) rfl (Nat.le_of_ble_eq_true rfl) (fun vr h2 hq => hq.elim) (fun E9 h9 hq => ?_)
              exact w_out hf (Nat.le_of_ble_eq_true rfl) (Nat.le_of_ble_eq_true rfl) hq
            have hr := bw_ok hr
            refine c_X14_284 (As := [.int 102]) (rest := []) (fun l => t_X14_take_  hz e71 l) hrm dX14_work_277 rfl rfl (Nat.le_of_ble_eq_true rfl) (Nat.le_of_ble_eq_true rfl) (Nat.le_of_ble_eq_true rfl) (hz.o14 rfl) rfl (Nat.le_of_ble_eq_true rfl) (fun vr h2 hq => ?_) (fun E9 h9 hq => hq.elim)
            obtain ⟨rfl, hz⟩ := hq
            show wp _ _ 280 [(6, .int w12), (0, .ref (A 14 0 0)), (1, .int x1), (2, .int (zI ρ 1926 0 0 (Int32.toNatClampNeg (zI ρ 905 0 0 0)))), (3, .int (zI ρ 1927 0 0 (Int32.toNatClampNeg (zI ρ 905 0 0 0)))), (5, .int (wkj 7 (zI ρ 1926 0 0 (Int32.toNatClampNeg (zI ρ 905 0 0 0)))))] [] _ _ _
            refine w_aload_n 1 dX14_work_280 rfl rfl rfl ?_
            obtain ⟨g75, hr⟩ := gd hr
            have hv74 := hz.ww909 (p := 0) (s := 0) rfl g75
            refine g_X14_232 dX14_work_281 rfl (hz.o14 rfl) (hz.rr909 rfl g75) ?_
            refine g_X14_326 dX14_work_284 rfl (hz.o12 hv74) (hz.r774 hv74) ?_
            refine w_iload_n 2 dX14_work_287 rfl rfl rfl ?_
            refine w_aload_n 1 dX14_work_288 rfl rfl rfl ?_
            obtain ⟨v76, ρ77, e78, hr⟩ := bw_some hr
            rcases v76 with w80e | w80
            · obtain ⟨rfl, rfl⟩ := rete (bw_er hr)
              refine c_X14_344 (As := []) (rest := [.int x1, .ref (A 1798 (zR ρ70 909 0 0 0).1 0)]) (fun l => e_X14_streamNamed  hz e78 l) hrm dX14_work_289 rfl rfl (Nat.le_of_ble_eq_true rfl) (Nat.le_of_ble_eq_true rfl) (Nat.le_of_ble_eq_true rfl) (hz.o14 rfl) rfl (Nat.le_of_ble_eq_true rfl) (fun vr h2 hq => hq.elim) (fun E9 h9 hq => ?_)
              exact w_out hf (Nat.le_of_ble_eq_true rfl) (Nat.le_of_ble_eq_true rfl) hq
            have hr := bw_ok hr
            refine c_X14_344 (As := []) (rest := [.int x1, .ref (A 1798 (zR ρ70 909 0 0 0).1 0)]) (fun l => t_X14_streamNamed  hz e78 l) hrm dX14_work_289 rfl rfl (Nat.le_of_ble_eq_true rfl) (Nat.le_of_ble_eq_true rfl) (Nat.le_of_ble_eq_true rfl) (hz.o14 rfl) rfl (Nat.le_of_ble_eq_true rfl) (fun vr h2 hq => ?_) (fun E9 h9 hq => hq.elim)
            obtain ⟨rfl, hz⟩ := hq
            show wp _ _ 292 [(6, .int w12), (0, .ref (A 14 0 0)), (1, .int x1), (2, .int (zI ρ 1926 0 0 (Int32.toNatClampNeg (zI ρ 905 0 0 0)))), (3, .int (zI ρ 1927 0 0 (Int32.toNatClampNeg (zI ρ 905 0 0 0)))), (5, .int (wkj 7 (zI ρ 1926 0 0 (Int32.toNatClampNeg (zI ρ 905 0 0 0)))))] [.int w80, .int x1, .ref (A 1798 (zR ρ70 909 0 0 0).1 0)] _ _ _
            obtain ⟨g81, hr⟩ := gd hr
            refine w_iast dX14_work_292 rfl (hz.k774 hv74) (gin (hz.n774 hv74) g81) ?_
            obtain ⟨ρ82, e83, hr⟩ := lt_e hr
            have hz := (hz.s774 (i := (Int32.toNatClampNeg x1)) (v := w80) hv74).tr e83
            refine w_aload_n 1 dX14_work_293 rfl rfl rfl ?_
            obtain ⟨g85, hr⟩ := gd hr
            have hv84 := hz.ww909 (p := 0) (s := 0) rfl g85
            refine g_X14_232 dX14_work_294 rfl (hz.o14 rfl) (hz.rr909 rfl g85) ?_
            refine g_X14_292 dX14_work_297 rfl (hz.o12 hv84) (hz.r771 hv84) ?_
            refine w_iload 0 dX14_work_300 rfl rfl ?_
            obtain ⟨g86, hr⟩ := gd hr
            refine w_iald dX14_work_302 rfl (hz.k771 hv84) (gin (hz.n771 hv84) g86) (hz.x771 hv84) ?_
            refine w_aload_n 1 dX14_work_303 rfl rfl rfl ?_
            obtain ⟨g88, hr⟩ := gd hr
            have hv87 := hz.ww909 (p := 0) (s := 0) rfl g88
            refine g_X14_232 dX14_work_304 rfl (hz.o14 rfl) (hz.rr909 rfl g88) ?_
            refine g_X14_292 dX14_work_307 rfl (hz.o12 hv87) (hz.r771 hv87) ?_
            refine w_aload_n 1 dX14_work_310 rfl rfl rfl ?_
            obtain ⟨g90, hr⟩ := gd hr
            have hv89 := hz.ww909 (p := 0) (s := 0) rfl g90
            refine g_X14_232 dX14_work_311 rfl (hz.o14 rfl) (hz.rr909 rfl g90) ?_
            refine g_X14_326 dX14_work_314 rfl (hz.o12 hv89) (hz.r774 hv89) ?_
            refine w_iload_n 2 dX14_work_317 rfl rfl rfl ?_
            obtain ⟨g91, hr⟩ := gd hr
            refine w_iald dX14_work_318 rfl (hz.k774 hv89) (gin (hz.n774 hv89) g91) (hz.x774 hv89) ?_
            obtain ⟨g92, hr⟩ := gd hr
            refine w_iald dX14_work_319 rfl (hz.k771 hv87) (gin (hz.n771 hv87) g92) (hz.x771 hv87) ?_
            refine w_icmp_ne 327 dX14_work_320 rfl rfl (fun q320 => ?_) (fun q320 => ?_)
            · have hr := bf q320 hr
              refine w_iconst 0 dX14_work_327 rfl rfl ?_
              refine w_istore [(7, .int 0), (6, .int w12), (0, .ref (A 14 0 0)), (1, .int x1), (2, .int (zI ρ 1926 0 0 (Int32.toNatClampNeg (zI ρ 905 0 0 0)))), (3, .int (zI ρ 1927 0 0 (Int32.toNatClampNeg (zI ρ 905 0 0 0)))), (5, .int (wkj 7 (zI ρ 1926 0 0 (Int32.toNatClampNeg (zI ρ 905 0 0 0)))))] dX14_work_328 rfl (by decide) rfl ?_
              refine w_iconst 0 dX14_work_330 rfl rfl ?_
              refine w_istore [(8, .int 0), (7, .int 0), (6, .int w12), (0, .ref (A 14 0 0)), (1, .int x1), (2, .int (zI ρ 1926 0 0 (Int32.toNatClampNeg (zI ρ 905 0 0 0)))), (3, .int (zI ρ 1927 0 0 (Int32.toNatClampNeg (zI ρ 905 0 0 0)))), (5, .int (wkj 7 (zI ρ 1926 0 0 (Int32.toNatClampNeg (zI ρ 905 0 0 0)))))] dX14_work_331 rfl (by decide) rfl ?_
              refine w_lv [(0, .ref (A 14 0 0)), (1, .int x1), (3, .int (zI ρ 1927 0 0 (Int32.toNatClampNeg (zI ρ 905 0 0 0)))), (6, .int w12), (7, .int 0), (8, .int 0)] [3, 4, 6, 2, 1, 0] rfl ?_
              exact x_X14_work_333 hf hrm   FU (zI ρ 1927 0 0 (Int32.toNatClampNeg (zI ρ 905 0 0 0))) w12 0 0 _ _ hz  hr
            · have hr := bt q320 hr
              refine w_iconst 1 dX14_work_323 rfl rfl ?_
              refine w_goto 328 dX14_work_324 rfl ?_
              refine w_istore [(7, .int 1), (6, .int w12), (0, .ref (A 14 0 0)), (1, .int x1), (2, .int (zI ρ 1926 0 0 (Int32.toNatClampNeg (zI ρ 905 0 0 0)))), (3, .int (zI ρ 1927 0 0 (Int32.toNatClampNeg (zI ρ 905 0 0 0)))), (5, .int (wkj 7 (zI ρ 1926 0 0 (Int32.toNatClampNeg (zI ρ 905 0 0 0)))))] dX14_work_328 rfl (by decide) rfl ?_
              refine w_iconst 0 dX14_work_330 rfl rfl ?_
              refine w_istore [(8, .int 0), (7, .int 1), (6, .int w12), (0, .ref (A 14 0 0)), (1, .int x1), (2, .int (zI ρ 1926 0 0 (Int32.toNatClampNeg (zI ρ 905 0 0 0)))), (3, .int (zI ρ 1927 0 0 (Int32.toNatClampNeg (zI ρ 905 0 0 0)))), (5, .int (wkj 7 (zI ρ 1926 0 0 (Int32.toNatClampNeg (zI ρ 905 0 0 0)))))] dX14_work_331 rfl (by decide) rfl ?_
              refine w_lv [(0, .ref (A 14 0 0)), (1, .int x1), (3, .int (zI ρ 1927 0 0 (Int32.toNatClampNeg (zI ρ 905 0 0 0)))), (6, .int w12), (7, .int 1), (8, .int 0)] [3, 4, 6, 2, 1, 0] rfl ?_
              exact x_X14_work_333 hf hrm   FU (zI ρ 1927 0 0 (Int32.toNatClampNeg (zI ρ 905 0 0 0))) w12 1 0 _ _ hz  hr
        · have hr := bt q222 hr
          refine w_aload_n 1 dX14_work_225 rfl rfl rfl ?_
          refine w_bipush 100 dX14_work_226 rfl rfl ?_
          obtain ⟨v123, ρ124, e125, hr⟩ := bw_some hr
          rcases v123 with w127e | w127
          · obtain ⟨rfl, rfl⟩ := rete (bw_er hr)
            refine c_X14_284 (As := [.int 100]) (rest := []) (fun l => e_X14_take_  hz e125 l) hrm dX14_work_228 rfl rfl (Nat.le_of_ble_eq_true rfl) (Nat.le_of_ble_eq_true rfl) (Nat.le_of_ble_eq_true rfl) (hz.o14 rfl) rfl (Nat.le_of_ble_eq_true rfl) (fun vr h2 hq => hq.elim) (fun E9 h9 hq => ?_)
            exact w_out hf (Nat.le_of_ble_eq_true rfl) (Nat.le_of_ble_eq_true rfl) hq
          have hr := bw_ok hr
          refine c_X14_284 (As := [.int 100]) (rest := []) (fun l => t_X14_take_  hz e125 l) hrm dX14_work_228 rfl rfl (Nat.le_of_ble_eq_true rfl) (Nat.le_of_ble_eq_true rfl) (Nat.le_of_ble_eq_true rfl) (hz.o14 rfl) rfl (Nat.le_of_ble_eq_true rfl) (fun vr h2 hq => ?_) (fun E9 h9 hq => hq.elim)
          obtain ⟨rfl, hz⟩ := hq
          show wp _ _ 231 [(6, .int w12), (0, .ref (A 14 0 0)), (1, .int x1), (2, .int (zI ρ 1926 0 0 (Int32.toNatClampNeg (zI ρ 905 0 0 0)))), (3, .int (zI ρ 1927 0 0 (Int32.toNatClampNeg (zI ρ 905 0 0 0)))), (5, .int (wkj 7 (zI ρ 1926 0 0 (Int32.toNatClampNeg (zI ρ 905 0 0 0)))))] [] _ _ _
          refine w_aload_n 1 dX14_work_231 rfl rfl rfl ?_
          refine w_iload 0 dX14_work_232 rfl rfl ?_
          obtain ⟨v128, ρ129, e130, hr⟩ := bw_some hr
          rcases v128 with w132e | w132
          · obtain ⟨rfl, rfl⟩ := rete (bw_er hr)
            refine c_X14_381 (As := [.int w12]) (rest := []) (fun l => e_X14_pickOne  hz e130 l) hrm dX14_work_234 rfl rfl (Nat.le_of_ble_eq_true rfl) (Nat.le_of_ble_eq_true rfl) (Nat.le_of_ble_eq_true rfl) (hz.o14 rfl) rfl (Nat.le_of_ble_eq_true rfl) (fun vr h2 hq => hq.elim) (fun E9 h9 hq => ?_)
            exact w_out hf (Nat.le_of_ble_eq_true rfl) (Nat.le_of_ble_eq_true rfl) hq
          have hr := bw_ok hr
          refine c_X14_381 (As := [.int w12]) (rest := []) (fun l => t_X14_pickOne  hz e130 l) hrm dX14_work_234 rfl rfl (Nat.le_of_ble_eq_true rfl) (Nat.le_of_ble_eq_true rfl) (Nat.le_of_ble_eq_true rfl) (hz.o14 rfl) rfl (Nat.le_of_ble_eq_true rfl) (fun vr h2 hq => ?_) (fun E9 h9 hq => hq.elim)
          obtain ⟨rfl, hz⟩ := hq
          show wp _ _ 237 [(6, .int w12), (0, .ref (A 14 0 0)), (1, .int x1), (2, .int (zI ρ 1926 0 0 (Int32.toNatClampNeg (zI ρ 905 0 0 0)))), (3, .int (zI ρ 1927 0 0 (Int32.toNatClampNeg (zI ρ 905 0 0 0)))), (5, .int (wkj 7 (zI ρ 1926 0 0 (Int32.toNatClampNeg (zI ρ 905 0 0 0)))))] [] _ _ _
          refine w_lv [(0, .ref (A 14 0 0)), (1, .int x1), (6, .int w12)] [1, 2, 0] rfl ?_
          exact x_X14_work_237 hf hrm   FU w12 _ _ hz  hr
      · have hr := bt q179 hr
        refine w_aload_n 1 dX14_work_182 rfl rfl rfl ?_
        refine w_iload 0 dX14_work_183 rfl rfl ?_
        refine w_iconst (-1) dX14_work_185 rfl rfl ?_
        obtain ⟨v152, ρ153, e154, hr⟩ := bq_some hr
        refine c_X14_375 (As := [.int w12, .int (-1)]) (rest := []) (fun l => s_X14_sayAll  hz e154 l) hrm dX14_work_186 rfl rfl (Nat.le_of_ble_eq_true rfl) (Nat.le_of_ble_eq_true rfl) (Nat.le_of_ble_eq_true rfl) (hz.o14 rfl) rfl (Nat.le_of_ble_eq_true rfl) (fun vr h2 hq => ?_) (fun E9 h9 hq => hq.elim)
        obtain ⟨rfl, hz⟩ := hq
        show wp _ _ 189 [(6, .int w12), (0, .ref (A 14 0 0)), (1, .int x1), (2, .int (zI ρ 1926 0 0 (Int32.toNatClampNeg (zI ρ 905 0 0 0)))), (3, .int (zI ρ 1927 0 0 (Int32.toNatClampNeg (zI ρ 905 0 0 0)))), (5, .int (wkj 7 (zI ρ 1926 0 0 (Int32.toNatClampNeg (zI ρ 905 0 0 0)))))] [] _ _ _
        refine w_aload_n 1 dX14_work_189 rfl rfl rfl ?_
        refine w_bipush 6 dX14_work_190 rfl rfl ?_
        obtain ⟨v156, ρ157, e158, hr⟩ := bw_some hr
        rcases v156 with w160e | w160
        · obtain ⟨rfl, rfl⟩ := rete (bw_er hr)
          refine c_X14_284 (As := [.int 6]) (rest := []) (fun l => e_X14_take_  hz e158 l) hrm dX14_work_192 rfl rfl (Nat.le_of_ble_eq_true rfl) (Nat.le_of_ble_eq_true rfl) (Nat.le_of_ble_eq_true rfl) (hz.o14 rfl) rfl (Nat.le_of_ble_eq_true rfl) (fun vr h2 hq => hq.elim) (fun E9 h9 hq => ?_)
          exact w_out hf (Nat.le_of_ble_eq_true rfl) (Nat.le_of_ble_eq_true rfl) hq
        have hr := bw_ok hr
        refine c_X14_284 (As := [.int 6]) (rest := []) (fun l => t_X14_take_  hz e158 l) hrm dX14_work_192 rfl rfl (Nat.le_of_ble_eq_true rfl) (Nat.le_of_ble_eq_true rfl) (Nat.le_of_ble_eq_true rfl) (hz.o14 rfl) rfl (Nat.le_of_ble_eq_true rfl) (fun vr h2 hq => ?_) (fun E9 h9 hq => hq.elim)
        obtain ⟨rfl, hz⟩ := hq
        show wp _ _ 195 [(6, .int w12), (0, .ref (A 14 0 0)), (1, .int x1), (2, .int (zI ρ 1926 0 0 (Int32.toNatClampNeg (zI ρ 905 0 0 0)))), (3, .int (zI ρ 1927 0 0 (Int32.toNatClampNeg (zI ρ 905 0 0 0)))), (5, .int (wkj 7 (zI ρ 1926 0 0 (Int32.toNatClampNeg (zI ρ 905 0 0 0)))))] [] _ _ _
        refine w_aload_n 1 dX14_work_195 rfl rfl rfl ?_
        obtain ⟨v161, ρ162, e163, hr⟩ := bw_some hr
        rcases v161 with w165e | w165
        · obtain ⟨rfl, rfl⟩ := rete (bw_er hr)
          refine c_X14_378 (As := []) (rest := []) (fun l => e_X14_makeOne  hz e163 l) hrm dX14_work_196 rfl rfl (Nat.le_of_ble_eq_true rfl) (Nat.le_of_ble_eq_true rfl) (Nat.le_of_ble_eq_true rfl) (hz.o14 rfl) rfl (Nat.le_of_ble_eq_true rfl) (fun vr h2 hq => hq.elim) (fun E9 h9 hq => ?_)
          exact w_out hf (Nat.le_of_ble_eq_true rfl) (Nat.le_of_ble_eq_true rfl) hq
        have hr := bw_ok hr
        refine c_X14_378 (As := []) (rest := []) (fun l => t_X14_makeOne  hz e163 l) hrm dX14_work_196 rfl rfl (Nat.le_of_ble_eq_true rfl) (Nat.le_of_ble_eq_true rfl) (Nat.le_of_ble_eq_true rfl) (hz.o14 rfl) rfl (Nat.le_of_ble_eq_true rfl) (fun vr h2 hq => ?_) (fun E9 h9 hq => hq.elim)
        obtain ⟨rfl, hz⟩ := hq
        show wp _ _ 199 [(6, .int w12), (0, .ref (A 14 0 0)), (1, .int x1), (2, .int (zI ρ 1926 0 0 (Int32.toNatClampNeg (zI ρ 905 0 0 0)))), (3, .int (zI ρ 1927 0 0 (Int32.toNatClampNeg (zI ρ 905 0 0 0)))), (5, .int (wkj 7 (zI ρ 1926 0 0 (Int32.toNatClampNeg (zI ρ 905 0 0 0)))))] [] _ _ _
        refine w_lv [(0, .ref (A 14 0 0)), (1, .int x1)] [1, 2] rfl ?_
        exact x_X14_work_199 hf hrm   FU  _ _ hz  hr
    · have hr := bt q146 hr
      refine w_aload_n 1 dX14_work_149 rfl rfl rfl ?_
      refine w_iconst 4 dX14_work_150 rfl rfl ?_
      obtain ⟨v180, ρ181, e182, hr⟩ := bw_some hr
      rcases v180 with w184e | w184
      · obtain ⟨rfl, rfl⟩ := rete (bw_er hr)
        refine c_X14_284 (As := [.int 4]) (rest := []) (fun l => e_X14_take_  hz e182 l) hrm dX14_work_151 rfl rfl (Nat.le_of_ble_eq_true rfl) (Nat.le_of_ble_eq_true rfl) (Nat.le_of_ble_eq_true rfl) (hz.o14 rfl) rfl (Nat.le_of_ble_eq_true rfl) (fun vr h2 hq => hq.elim) (fun E9 h9 hq => ?_)
        exact w_out hf (Nat.le_of_ble_eq_true rfl) (Nat.le_of_ble_eq_true rfl) hq
      have hr := bw_ok hr
      refine c_X14_284 (As := [.int 4]) (rest := []) (fun l => t_X14_take_  hz e182 l) hrm dX14_work_151 rfl rfl (Nat.le_of_ble_eq_true rfl) (Nat.le_of_ble_eq_true rfl) (Nat.le_of_ble_eq_true rfl) (hz.o14 rfl) rfl (Nat.le_of_ble_eq_true rfl) (fun vr h2 hq => ?_) (fun E9 h9 hq => hq.elim)
      obtain ⟨rfl, hz⟩ := hq
      show wp _ _ 154 [(6, .int w12), (0, .ref (A 14 0 0)), (1, .int x1), (2, .int (zI ρ 1926 0 0 (Int32.toNatClampNeg (zI ρ 905 0 0 0)))), (3, .int (zI ρ 1927 0 0 (Int32.toNatClampNeg (zI ρ 905 0 0 0)))), (5, .int (wkj 7 (zI ρ 1926 0 0 (Int32.toNatClampNeg (zI ρ 905 0 0 0)))))] [] _ _ _
      refine w_aload_n 1 dX14_work_154 rfl rfl rfl ?_
      obtain ⟨g186, hr⟩ := gd hr
      have hv185 := hz.ww909 (p := 0) (s := 0) rfl g186
      refine g_X14_232 dX14_work_155 rfl (hz.o14 rfl) (hz.rr909 rfl g186) ?_
      refine g_X14_369 dX14_work_158 rfl (hz.o12 hv185) (hz.r775 hv185) ?_
      refine w_iload_n 2 dX14_work_161 rfl rfl rfl ?_
      refine w_aload_n 1 dX14_work_162 rfl rfl rfl ?_
      obtain ⟨v187, ρ188, e189, hr⟩ := bw_some hr
      rcases v187 with w191e | w191
      · obtain ⟨rfl, rfl⟩ := rete (bw_er hr)
        refine c_X14_348 (As := []) (rest := [.int x1, .ref (A 1799 (zR ρ181 909 0 0 0).1 0)]) (fun l => e_X14_whole  hz e189 l) hrm dX14_work_163 rfl rfl (Nat.le_of_ble_eq_true rfl) (Nat.le_of_ble_eq_true rfl) (Nat.le_of_ble_eq_true rfl) (hz.o14 rfl) rfl (Nat.le_of_ble_eq_true rfl) (fun vr h2 hq => hq.elim) (fun E9 h9 hq => ?_)
        exact w_out hf (Nat.le_of_ble_eq_true rfl) (Nat.le_of_ble_eq_true rfl) hq
      have hr := bw_ok hr
      refine c_X14_348 (As := []) (rest := [.int x1, .ref (A 1799 (zR ρ181 909 0 0 0).1 0)]) (fun l => t_X14_whole  hz e189 l) hrm dX14_work_163 rfl rfl (Nat.le_of_ble_eq_true rfl) (Nat.le_of_ble_eq_true rfl) (Nat.le_of_ble_eq_true rfl) (hz.o14 rfl) rfl (Nat.le_of_ble_eq_true rfl) (fun vr h2 hq => ?_) (fun E9 h9 hq => hq.elim)
      obtain ⟨rfl, hz⟩ := hq
      show wp _ _ 166 [(6, .int w12), (0, .ref (A 14 0 0)), (1, .int x1), (2, .int (zI ρ 1926 0 0 (Int32.toNatClampNeg (zI ρ 905 0 0 0)))), (3, .int (zI ρ 1927 0 0 (Int32.toNatClampNeg (zI ρ 905 0 0 0)))), (5, .int (wkj 7 (zI ρ 1926 0 0 (Int32.toNatClampNeg (zI ρ 905 0 0 0)))))] [.int w191, .int x1, .ref (A 1799 (zR ρ181 909 0 0 0).1 0)] _ _ _
      obtain ⟨g192, hr⟩ := gd hr
      refine w_iast dX14_work_166 rfl (hz.k775 hv185) (gin (hz.n775 hv185) g192) ?_
      obtain ⟨ρ193, e194, hr⟩ := lt_e hr
      have hz := (hz.s775 (i := (Int32.toNatClampNeg x1)) (v := w191) hv185).tr e194
      refine w_aload_n 1 dX14_work_167 rfl rfl rfl ?_
      refine w_iload 0 dX14_work_168 rfl rfl ?_
      refine w_iconst (-1) dX14_work_170 rfl rfl ?_
      obtain ⟨v195, ρ196, e197, hr⟩ := bq_some hr
      refine c_X14_375 (As := [.int w12, .int (-1)]) (rest := []) (fun l => s_X14_sayAll  hz e197 l) hrm dX14_work_171 rfl rfl (Nat.le_of_ble_eq_true rfl) (Nat.le_of_ble_eq_true rfl) (Nat.le_of_ble_eq_true rfl) (hz.o14 rfl) rfl (Nat.le_of_ble_eq_true rfl) (fun vr h2 hq => ?_) (fun E9 h9 hq => hq.elim)
      obtain ⟨rfl, hz⟩ := hq
      show wp _ _ 174 [(6, .int w12), (0, .ref (A 14 0 0)), (1, .int x1), (2, .int (zI ρ 1926 0 0 (Int32.toNatClampNeg (zI ρ 905 0 0 0)))), (3, .int (zI ρ 1927 0 0 (Int32.toNatClampNeg (zI ρ 905 0 0 0)))), (5, .int (wkj 7 (zI ρ 1926 0 0 (Int32.toNatClampNeg (zI ρ 905 0 0 0)))))] [] _ _ _
      refine w_goto 507 dX14_work_174 rfl ?_
      exact noek hr
  · have hr := bt q96 hr
    refine w_aload_n 0 dX14_work_99 rfl rfl rfl ?_
    obtain ⟨w199, ρ200, e201, hr⟩ := bq_some hr
    refine c_X14_219 (As := []) (rest := []) (fun l => s_X14_wrong hz e201 l) hrm dX14_work_100 rfl rfl (Nat.le_of_ble_eq_true rfl) (Nat.le_of_ble_eq_true rfl) (Nat.le_of_ble_eq_true rfl) (hz.o14 rfl) rfl (Nat.le_of_ble_eq_true rfl) (fun vr h2 hq => ?_) (fun E9 h9 hq => hq.elim)
    obtain ⟨q, rfl, hq⟩ := hq
    obtain ⟨rfl, rfl⟩ := rete hr
    show wp _ _ 103 [(0, .ref (A 14 0 0)), (1, .int x1), (2, .int (zI ρ 1926 0 0 (Int32.toNatClampNeg (zI ρ 905 0 0 0)))), (3, .int (zI ρ 1927 0 0 (Int32.toNatClampNeg (zI ρ 905 0 0 0)))), (5, .int (wkj 7 (zI ρ 1926 0 0 (Int32.toNatClampNeg (zI ρ 905 0 0 0)))))] [.ref q] _ _ _
    refine w_athrow dX14_work_103 (q := q) hq.1 ?_
    exact w_out hf (Nat.le_of_ble_eq_true rfl) (Nat.le_of_ble_eq_true rfl) hq.gh

set_option maxRecDepth 20000 in
set_option maxHeartbeats 4000000 in
theorem u_X14_item_263 {A : Nat → Nat → Nat → Nat} {σ ρ' : Zs} {v : Unit} {x : Cxt}   (hf : m_fin 2 14 (QV A v σ ρ') X0 x) (hrm : m_rm 100 2 14 x)  : ∀ (n : Nat) (y6 : Int32) (y7 : Int32) (ρ : Zs) (h : Hp), Rp A h σ ρ → fX14_item_263   n y6 y7 ρ = some (.ok v, ρ') → wp x mX14_item 263 [(0, .ref (A 14 0 0)), (6, .int y6), (7, .int y7)] [] h 2 14
  | 0, _, _, ρ, h => fun hz hr => by
    rw [fX14_item_263.eq_1] at hr
    exact nono hr
  | n + 1, y6, y7, ρ, h => fun hz hr => by
    rw [fX14_item_263.eq_2] at hr
    refine w_iload 2 dX14_item_263 rfl rfl ?_
    refine w_aload_n 0 dX14_item_265 rfl rfl rfl ?_
    refine g_X14_313 dX14_item_266 rfl (hz.o14 rfl) (hz.i911 rfl) ?_
    refine w_icmp_ge 347 dX14_item_269 rfl rfl (fun q269 => ?_) (fun q269 => ?_)
    · have hr := bt q269 hr
      refine w_aload_n 0 dX14_item_347 rfl rfl rfl ?_
      obtain ⟨g73, hr⟩ := gd hr
      have hv72 := hz.ww909 (p := 0) (s := 0) rfl g73
      refine g_X14_232 dX14_item_348 rfl (hz.o14 rfl) (hz.rr909 rfl g73) ?_
      refine w_dup dX14_item_351 rfl rfl ?_
      refine g_X14_298 dX14_item_352 rfl (hz.o12 hv72) (hz.i768 hv72) ?_
      refine w_iconst 1 dX14_item_355 rfl rfl ?_
      refine w_iadd dX14_item_356 rfl ?_
      refine p_X14_298 dX14_item_357 rfl (hz.o12 hv72) ?_
      obtain ⟨ρ74, e75, hr⟩ := lt_e hr
      have hz := (hz.s768 (v := ((zI ρ 768 ((zR ρ 909 0 0 0).1) 0 0) + 1)) hv72).tr e75
      refine w_vret hf dX14_item_360 rfl (Nat.le_of_ble_eq_true rfl) (Nat.le_of_ble_eq_true rfl) ?_
      obtain ⟨rfl, rfl⟩ := retw hr
      exact ⟨rfl, hz⟩
    · have hr := bf q269 hr
      refine w_aload_n 0 dX14_item_272 rfl rfl rfl ?_
      obtain ⟨g77, hr⟩ := gd hr
      have hv76 := hz.ww909 (p := 0) (s := 0) rfl g77
      refine g_X14_232 dX14_item_273 rfl (hz.o14 rfl) (hz.rr909 rfl g77) ?_
      refine g_X14_289 dX14_item_276 rfl (hz.o12 hv76) (hz.r772 hv76) ?_
      refine w_bipush 6 dX14_item_279 rfl rfl ?_
      refine w_iload 1 dX14_item_281 rfl rfl ?_
      refine w_imul dX14_item_283 rfl ?_
      refine w_iload 2 dX14_item_284 rfl rfl ?_
      refine w_iadd dX14_item_286 rfl ?_
      refine w_aload_n 0 dX14_item_287 rfl rfl rfl ?_
      refine g_X14_33 dX14_item_288 rfl (hz.o14 rfl) (hz.r912 rfl) ?_
      refine w_iload 2 dX14_item_291 rfl rfl ?_
      obtain ⟨g78, hr⟩ := gd hr
      refine w_lald dX14_item_293 rfl (hz.k912 rfl) (gin (hz.n912 rfl) g78) (hz.x912 rfl) ?_
      obtain ⟨g79, hr⟩ := gd hr
      refine w_last dX14_item_294 rfl (hz.k772 hv76) (gin (hz.n772 hv76) g79) ?_
      obtain ⟨ρ80, e81, hr⟩ := lt_e hr
      have hz := (hz.s772 (i := (Int32.toNatClampNeg ((6 * y6) + y7))) (v := (zJ ρ 1936 0 0 (Int32.toNatClampNeg y7))) hv76).tr e81
      refine w_aload_n 0 dX14_item_295 rfl rfl rfl ?_
      obtain ⟨g83, hr⟩ := gd hr
      have hv82 := hz.ww909 (p := 0) (s := 0) rfl g83
      refine g_X14_232 dX14_item_296 rfl (hz.o14 rfl) (hz.rr909 rfl g83) ?_
      refine g_X14_335 dX14_item_299 rfl (hz.o12 hv82) (hz.r779 hv82) ?_
      refine w_bipush 6 dX14_item_302 rfl rfl ?_
      refine w_iload 1 dX14_item_304 rfl rfl ?_
      refine w_imul dX14_item_306 rfl ?_
      refine w_iload 2 dX14_item_307 rfl rfl ?_
      refine w_iadd dX14_item_309 rfl ?_
      refine w_aload_n 0 dX14_item_310 rfl rfl rfl ?_
      refine g_X14_36 dX14_item_311 rfl (hz.o14 rfl) (hz.r913 rfl) ?_
      refine w_iload 2 dX14_item_314 rfl rfl ?_
      obtain ⟨g84, hr⟩ := gd hr
      refine w_iald dX14_item_316 rfl (hz.k913 rfl) (gin (hz.n913 rfl) g84) (hz.x913 rfl) ?_
      obtain ⟨g85, hr⟩ := gd hr
      refine w_iast dX14_item_317 rfl (hz.k779 hv82) (gin (hz.n779 hv82) g85) ?_
      obtain ⟨ρ86, e87, hr⟩ := lt_e hr
      have hz := (hz.s779 (i := (Int32.toNatClampNeg ((6 * y6) + y7))) (v := (zI ρ80 1937 0 0 (Int32.toNatClampNeg y7))) hv82).tr e87
      refine w_aload_n 0 dX14_item_318 rfl rfl rfl ?_
      obtain ⟨g89, hr⟩ := gd hr
      have hv88 := hz.ww909 (p := 0) (s := 0) rfl g89
      refine g_X14_232 dX14_item_319 rfl (hz.o14 rfl) (hz.rr909 rfl g89) ?_
      refine g_X14_338 dX14_item_322 rfl (hz.o12 hv88) (hz.r780 hv88) ?_
      refine w_bipush 6 dX14_item_325 rfl rfl ?_
      refine w_iload 1 dX14_item_327 rfl rfl ?_
      refine w_imul dX14_item_329 rfl ?_
      refine w_iload 2 dX14_item_330 rfl rfl ?_
      refine w_iadd dX14_item_332 rfl ?_
      refine w_aload_n 0 dX14_item_333 rfl rfl rfl ?_
      refine g_X14_39 dX14_item_334 rfl (hz.o14 rfl) (hz.r914 rfl) ?_
      refine w_iload 2 dX14_item_337 rfl rfl ?_
      obtain ⟨g90, hr⟩ := gd hr
      refine w_iald dX14_item_339 rfl (hz.k914 rfl) (gin (hz.n914 rfl) g90) (hz.x914 rfl) ?_
      obtain ⟨g91, hr⟩ := gd hr
      refine w_iast dX14_item_340 rfl (hz.k780 hv88) (gin (hz.n780 hv88) g91) ?_
      obtain ⟨ρ92, e93, hr⟩ := lt_e hr
      have hz := (hz.s780 (i := (Int32.toNatClampNeg ((6 * y6) + y7))) (v := (zI ρ86 1938 0 0 (Int32.toNatClampNeg y7))) hv88).tr e93
      refine w_iinc 2 (y7 + 1) [(7, .int (y7 + 1)), (0, .ref (A 14 0 0)), (6, .int y6)] dX14_item_341 rfl rfl rfl (by decide) rfl ?_
      refine w_goto 263 dX14_item_344 rfl ?_
      refine w_lv [(0, .ref (A 14 0 0)), (6, .int y6), (7, .int (y7 + 1))] [1, 2, 0] rfl ?_
      exact u_X14_item_263 hf hrm   n y6 (y7 + 1) _ _ hz  hr
set_option maxRecDepth 20000 in
set_option maxHeartbeats 4000000 in
theorem u_X14_item_221 {A : Nat → Nat → Nat → Nat} {σ ρ' : Zs} {v : Unit} {x : Cxt}   (hf : m_fin 2 14 (QV A v σ ρ') X0 x) (hrm : m_rm 100 2 14 x)  : ∀ (y3 : Int64) (y5 : Int32) (y6 : Int32) (z0 : Int32) (ρ : Zs) (h : Hp), Rp A h σ ρ → fX14_item_221   y3 y5 y6 z0 ρ = some (.ok v, ρ') → wp x mX14_item 221 [(0, .ref (A 14 0 0)), (3, .long y3), (5, .int y5), (6, .int y6)] [.int z0, .ref (A 14 0 0)] h 2 14 := by
  intro y3 y5 y6 z0 ρ h hz hr
  rw [fX14_item_221.eq_1] at hr
  refine w_iconst 4 dX14_item_221 rfl rfl ?_
  refine w_iload 2 dX14_item_222 rfl rfl ?_
  obtain ⟨v57, ρ58, e59, hr⟩ := bw_some hr
  rcases v57 with w61e | w61
  · exact noko (bw_er hr)
  have hr := bw_ok hr
  refine c_X14_277 (As := [.int z0, .int 4, .int y5]) (rest := []) (fun l => t_X14_must  hz e59 l) hrm dX14_item_224 rfl rfl (Nat.le_of_ble_eq_true rfl) (Nat.le_of_ble_eq_true rfl) (Nat.le_of_ble_eq_true rfl) (hz.o14 rfl) rfl (Nat.le_of_ble_eq_true rfl) (fun vr h2 hq => ?_) (fun E9 h9 hq => hq.elim)
  obtain ⟨rfl, hz⟩ := hq
  show wp _ _ 227 [(0, .ref (A 14 0 0)), (3, .long y3), (5, .int y5), (6, .int y6)] [] _ _ _
  refine w_aload_n 0 dX14_item_227 rfl rfl rfl ?_
  refine g_X14_212 dX14_item_228 rfl (hz.o14 rfl) (hz.i906 rfl) ?_
  refine w_if_ne 235 dX14_item_231 rfl rfl (fun q231 => ?_) (fun q231 => ?_)
  · have hr := bf q231 hr
    refine w_aload_n 0 dX14_item_235 rfl rfl rfl ?_
    obtain ⟨g63, hr⟩ := gd hr
    have hv62 := hz.ww909 (p := 0) (s := 0) rfl g63
    refine g_X14_232 dX14_item_236 rfl (hz.o14 rfl) (hz.rr909 rfl g63) ?_
    refine g_X14_295 dX14_item_239 rfl (hz.o12 hv62) (hz.r769 hv62) ?_
    refine w_iload 3 dX14_item_242 rfl rfl ?_
    refine w_lload_n 1 dX14_item_244 rfl rfl rfl ?_
    obtain ⟨g64, hr⟩ := gd hr
    refine w_last dX14_item_245 rfl (hz.k769 hv62) (gin (hz.n769 hv62) g64) ?_
    obtain ⟨ρ65, e66, hr⟩ := lt_e hr
    have hz := (hz.s769 (i := (Int32.toNatClampNeg y6)) (v := y3) hv62).tr e66
    refine w_aload_n 0 dX14_item_246 rfl rfl rfl ?_
    obtain ⟨g68, hr⟩ := gd hr
    have hv67 := hz.ww909 (p := 0) (s := 0) rfl g68
    refine g_X14_232 dX14_item_247 rfl (hz.o14 rfl) (hz.rr909 rfl g68) ?_
    refine g_X14_292 dX14_item_250 rfl (hz.o12 hv67) (hz.r771 hv67) ?_
    refine w_iload 3 dX14_item_253 rfl rfl ?_
    refine w_aload_n 0 dX14_item_255 rfl rfl rfl ?_
    refine g_X14_313 dX14_item_256 rfl (hz.o14 rfl) (hz.i911 rfl) ?_
    obtain ⟨g69, hr⟩ := gd hr
    refine w_iast dX14_item_259 rfl (hz.k771 hv67) (gin (hz.n771 hv67) g69) ?_
    obtain ⟨ρ70, e71, hr⟩ := lt_e hr
    have hz := (hz.s771 (i := (Int32.toNatClampNeg y6)) (v := (zI ρ65 911 0 0 0)) hv67).tr e71
    refine w_iconst 0 dX14_item_260 rfl rfl ?_
    refine w_istore [(7, .int 0), (0, .ref (A 14 0 0)), (3, .long y3), (5, .int y5), (6, .int y6)] dX14_item_261 rfl (by decide) rfl ?_
    refine w_lv [(0, .ref (A 14 0 0)), (6, .int y6), (7, .int 0)] [1, 4, 0] rfl ?_
    exact u_X14_item_263 hf hrm   FU y6 0 _ _ hz  hr
  · have hr := bt q231 hr
    refine w_vret hf dX14_item_234 rfl (Nat.le_of_ble_eq_true rfl) (Nat.le_of_ble_eq_true rfl) ?_
    obtain ⟨rfl, rfl⟩ := retw hr
    exact ⟨rfl, hz⟩
set_option maxRecDepth 20000 in
set_option maxHeartbeats 4000000 in
theorem u_X14_item_157 {A : Nat → Nat → Nat → Nat} {σ ρ' : Zs} {v : Unit} {x : Cxt}   (hf : m_fin 2 14 (QV A v σ ρ') X0 x) (hrm : m_rm 100 2 14 x)  : ∀ (y1 : Int32) (y3 : Int64) (y5 : Int32) (z0 : Int32) (ρ : Zs) (h : Hp), Rp A h σ ρ → fX14_item_157   y1 y3 y5 z0 ρ = some (.ok v, ρ') → wp x mX14_item 157 [(0, .ref (A 14 0 0)), (1, .int y1), (3, .long y3), (5, .int y5)] [.int z0] h 1 7 := by
  intro y1 y3 y5 z0 ρ h hz hr
  rw [fX14_item_157.eq_1] at hr
  refine w_istore [(6, .int z0), (0, .ref (A 14 0 0)), (1, .int y1), (3, .long y3), (5, .int y5)] dX14_item_157 rfl (by decide) rfl ?_
  refine w_aload_n 1 dX14_item_159 rfl rfl rfl ?_
  obtain ⟨g38, hr⟩ := gd hr
  have hv37 := hz.ww909 (p := 0) (s := 0) rfl g38
  refine g_X14_232 dX14_item_160 rfl (hz.o14 rfl) (hz.rr909 rfl g38) ?_
  refine g_X14_323 dX14_item_163 rfl (hz.o12 hv37) (hz.r773 hv37) ?_
  refine w_iload 0 dX14_item_166 rfl rfl ?_
  refine w_iconst (-1) dX14_item_168 rfl rfl ?_
  obtain ⟨g39, hr⟩ := gd hr
  refine w_iast dX14_item_169 rfl (hz.k773 hv37) (gin (hz.n773 hv37) g39) ?_
  obtain ⟨ρ40, e41, hr⟩ := lt_e hr
  have hz := (hz.s773 (i := (Int32.toNatClampNeg z0)) (v := (-1)) hv37).tr e41
  refine w_aload_n 1 dX14_item_170 rfl rfl rfl ?_
  obtain ⟨g43, hr⟩ := gd hr
  have hv42 := hz.ww909 (p := 0) (s := 0) rfl g43
  refine g_X14_232 dX14_item_171 rfl (hz.o14 rfl) (hz.rr909 rfl g43) ?_
  refine g_X14_326 dX14_item_174 rfl (hz.o12 hv42) (hz.r774 hv42) ?_
  refine w_iload 0 dX14_item_177 rfl rfl ?_
  refine w_iconst (-1) dX14_item_179 rfl rfl ?_
  obtain ⟨g44, hr⟩ := gd hr
  refine w_iast dX14_item_180 rfl (hz.k774 hv42) (gin (hz.n774 hv42) g44) ?_
  obtain ⟨ρ45, e46, hr⟩ := lt_e hr
  have hz := (hz.s774 (i := (Int32.toNatClampNeg z0)) (v := (-1)) hv42).tr e46
  refine w_iload_n 2 dX14_item_181 rfl rfl rfl ?_
  refine w_if_ne 194 dX14_item_182 rfl rfl (fun q182 => ?_) (fun q182 => ?_)
  · have hr := bf q182 hr
    refine w_aload_n 1 dX14_item_194 rfl rfl rfl ?_
    refine w_bipush 104 dX14_item_195 rfl rfl ?_
    obtain ⟨v47, ρ48, e49, hr⟩ := bw_some hr
    rcases v47 with w51e | w51
    · exact noko (bw_er hr)
    have hr := bw_ok hr
    refine c_X14_284 (As := [.int 104]) (rest := []) (fun l => t_X14_take_  hz e49 l) hrm dX14_item_197 rfl rfl (Nat.le_of_ble_eq_true rfl) (Nat.le_of_ble_eq_true rfl) (Nat.le_of_ble_eq_true rfl) (hz.o14 rfl) rfl (Nat.le_of_ble_eq_true rfl) (fun vr h2 hq => ?_) (fun E9 h9 hq => hq.elim)
    obtain ⟨rfl, hz⟩ := hq
    show wp _ _ 200 [(6, .int z0), (0, .ref (A 14 0 0)), (1, .int y1), (3, .long y3), (5, .int y5)] [] _ _ _
    refine w_aload_n 1 dX14_item_200 rfl rfl rfl ?_
    refine w_iload 0 dX14_item_201 rfl rfl ?_
    obtain ⟨v52, ρ53, e54, hr⟩ := bw_some hr
    rcases v52 with w56e | w56
    · exact noko (bw_er hr)
    have hr := bw_ok hr
    refine c_X14_332 (As := [.int z0]) (rest := []) (fun l => t_X14_work  hz e54 l) hrm dX14_item_203 rfl rfl (Nat.le_of_ble_eq_true rfl) (Nat.le_of_ble_eq_true rfl) (Nat.le_of_ble_eq_true rfl) (hz.o14 rfl) rfl (Nat.le_of_ble_eq_true rfl) (fun vr h2 hq => ?_) (fun E9 h9 hq => hq.elim)
    obtain ⟨rfl, hz⟩ := hq
    show wp _ _ 206 [(6, .int z0), (0, .ref (A 14 0 0)), (1, .int y1), (3, .long y3), (5, .int y5)] [] _ _ _
    refine w_aload_n 1 dX14_item_206 rfl rfl rfl ?_
    refine w_aload_n 1 dX14_item_207 rfl rfl rfl ?_
    refine g_X14_313 dX14_item_208 rfl (hz.o14 rfl) (hz.i911 rfl) ?_
    refine w_bipush 6 dX14_item_211 rfl rfl ?_
    refine w_icmp_gt 220 dX14_item_213 rfl rfl (fun q213 => ?_) (fun q213 => ?_)
    · have hr := bt q213 hr
      refine w_iconst 0 dX14_item_220 rfl rfl ?_
      refine w_lv [(0, .ref (A 14 0 0)), (3, .long y3), (5, .int y5), (6, .int z0)] [1, 3, 4, 0] rfl ?_
      exact u_X14_item_221 hf hrm   y3 y5 z0 0 _ _ hz  hr
    · have hr := bf q213 hr
      refine w_iconst 1 dX14_item_216 rfl rfl ?_
      refine w_goto 221 dX14_item_217 rfl ?_
      refine w_lv [(0, .ref (A 14 0 0)), (3, .long y3), (5, .int y5), (6, .int z0)] [1, 3, 4, 0] rfl ?_
      exact u_X14_item_221 hf hrm   y3 y5 z0 1 _ _ hz  hr
  · have hr := bt q182 hr
    refine w_aload_n 1 dX14_item_185 rfl rfl rfl ?_
    refine w_iload 0 dX14_item_186 rfl rfl ?_
    obtain ⟨v94, ρ95, e96, hr⟩ := bw_some hr
    rcases v94 with w98e | w98
    · exact noko (bw_er hr)
    have hr := bw_ok hr
    refine c_X14_329 (As := [.int z0]) (rest := []) (fun l => t_X14_source  hz e96 l) hrm dX14_item_188 rfl rfl (Nat.le_of_ble_eq_true rfl) (Nat.le_of_ble_eq_true rfl) (Nat.le_of_ble_eq_true rfl) (hz.o14 rfl) rfl (Nat.le_of_ble_eq_true rfl) (fun vr h2 hq => ?_) (fun E9 h9 hq => hq.elim)
    obtain ⟨rfl, hz⟩ := hq
    show wp _ _ 191 [(6, .int z0), (0, .ref (A 14 0 0)), (1, .int y1), (3, .long y3), (5, .int y5)] [] _ _ _
    refine w_goto 206 dX14_item_191 rfl ?_
    refine w_aload_n 1 dX14_item_206 rfl rfl rfl ?_
    refine w_aload_n 1 dX14_item_207 rfl rfl rfl ?_
    refine g_X14_313 dX14_item_208 rfl (hz.o14 rfl) (hz.i911 rfl) ?_
    refine w_bipush 6 dX14_item_211 rfl rfl ?_
    refine w_icmp_gt 220 dX14_item_213 rfl rfl (fun q213 => ?_) (fun q213 => ?_)
    · have hr := bt q213 hr
      refine w_iconst 0 dX14_item_220 rfl rfl ?_
      refine w_lv [(0, .ref (A 14 0 0)), (3, .long y3), (5, .int y5), (6, .int z0)] [1, 3, 4, 0] rfl ?_
      refine w_widen (kc' := 2) (ks' := 14) (Nat.le_of_ble_eq_true rfl) (Nat.le_of_ble_eq_true rfl) ?_
      exact u_X14_item_221 hf hrm   y3 y5 z0 0 _ _ hz  hr
    · have hr := bf q213 hr
      refine w_iconst 1 dX14_item_216 rfl rfl ?_
      refine w_goto 221 dX14_item_217 rfl ?_
      refine w_lv [(0, .ref (A 14 0 0)), (3, .long y3), (5, .int y5), (6, .int z0)] [1, 3, 4, 0] rfl ?_
      refine w_widen (kc' := 2) (ks' := 14) (Nat.le_of_ble_eq_true rfl) (Nat.le_of_ble_eq_true rfl) ?_
      exact u_X14_item_221 hf hrm   y3 y5 z0 1 _ _ hz  hr
set_option maxRecDepth 20000 in
set_option maxHeartbeats 4000000 in
theorem u_X14_item_124 {A : Nat → Nat → Nat → Nat} {σ ρ' : Zs} {v : Unit} {x : Cxt}   (hf : m_fin 2 14 (QV A v σ ρ') X0 x) (hrm : m_rm 100 2 14 x)  : ∀ (y1 : Int32) (y3 : Int64) (y5 : Int32) (z0 : Int32) (ρ : Zs) (h : Hp), Rp A h σ ρ → fX14_item_124   y1 y3 y5 z0 ρ = some (.ok v, ρ') → wp x mX14_item 124 [(0, .ref (A 14 0 0)), (1, .int y1), (3, .long y3), (5, .int y5)] [.int z0, .ref (A 14 0 0)] h 1 7 := by
  intro y1 y3 y5 z0 ρ h hz hr
  rw [fX14_item_124.eq_1] at hr
  refine w_iconst 5 dX14_item_124 rfl rfl ?_
  refine w_iload 3 dX14_item_125 rfl rfl ?_
  obtain ⟨v25, ρ26, e27, hr⟩ := bw_some hr
  rcases v25 with w29e | w29
  · exact noko (bw_er hr)
  have hr := bw_ok hr
  refine c_X14_277 (As := [.int z0, .int 5, .int y5]) (rest := []) (fun l => t_X14_must  hz e27 l) hrm dX14_item_127 rfl rfl (Nat.le_of_ble_eq_true rfl) (Nat.le_of_ble_eq_true rfl) (Nat.le_of_ble_eq_true rfl) (hz.o14 rfl) rfl (Nat.le_of_ble_eq_true rfl) (fun vr h2 hq => ?_) (fun E9 h9 hq => hq.elim)
  obtain ⟨rfl, hz⟩ := hq
  show wp _ _ 130 [(0, .ref (A 14 0 0)), (1, .int y1), (3, .long y3), (5, .int y5)] [] _ _ _
  refine w_aload_n 0 dX14_item_130 rfl rfl rfl ?_
  obtain ⟨v30, ρ31, e32, hr⟩ := bw_some hr
  rcases v30 with w34e | w34
  · exact noko (bw_er hr)
  have hr := bw_ok hr
  refine c_X14_226 (As := []) (rest := []) (fun l => t_X14_take  hz e32 l) hrm dX14_item_131 rfl rfl (Nat.le_of_ble_eq_true rfl) (Nat.le_of_ble_eq_true rfl) (Nat.le_of_ble_eq_true rfl) (hz.o14 rfl) rfl (Nat.le_of_ble_eq_true rfl) (fun vr h2 hq => ?_) (fun E9 h9 hq => hq.elim)
  obtain ⟨rfl, hz⟩ := hq
  show wp _ _ 134 [(0, .ref (A 14 0 0)), (1, .int y1), (3, .long y3), (5, .int y5)] [] _ _ _
  refine w_aload_n 0 dX14_item_134 rfl rfl rfl ?_
  refine w_iconst 0 dX14_item_135 rfl rfl ?_
  refine p_X14_313 dX14_item_136 rfl (hz.o14 rfl) ?_
  obtain ⟨ρ35, e36, hr⟩ := lt_e hr
  have hz := (hz.s911 (v := 0) rfl).tr e36
  refine w_aload_n 0 dX14_item_139 rfl rfl rfl ?_
  refine g_X14_212 dX14_item_140 rfl (hz.o14 rfl) (hz.i906 rfl) ?_
  refine w_if_eq 156 dX14_item_143 rfl rfl (fun q143 => ?_) (fun q143 => ?_)
  · have hr := bt q143 hr
    refine w_iconst 0 dX14_item_156 rfl rfl ?_
    refine w_lv [(0, .ref (A 14 0 0)), (1, .int y1), (3, .long y3), (5, .int y5)] [0, 1, 2, 3] rfl ?_
    exact u_X14_item_157 hf hrm   y1 y3 y5 0 _ _ hz  hr
  · have hr := bf q143 hr
    refine w_aload_n 0 dX14_item_146 rfl rfl rfl ?_
    obtain ⟨g100, hr⟩ := gd hr
    have hv99 := hz.ww909 (p := 0) (s := 0) rfl g100
    refine g_X14_232 dX14_item_147 rfl (hz.o14 rfl) (hz.rr909 rfl g100) ?_
    refine g_X14_298 dX14_item_150 rfl (hz.o12 hv99) (hz.i768 hv99) ?_
    refine w_goto 157 dX14_item_153 rfl ?_
    refine w_lv [(0, .ref (A 14 0 0)), (1, .int y1), (3, .long y3), (5, .int y5)] [0, 1, 2, 3] rfl ?_
    exact u_X14_item_157 hf hrm   y1 y3 y5 (zI ρ35 768 ((zR ρ35 909 0 0 0).1) 0 0) _ _ hz  hr
set_option maxRecDepth 20000 in
set_option maxHeartbeats 4000000 in
theorem u_X14_item_68 {A : Nat → Nat → Nat → Nat} {σ ρ' : Zs} {v : Unit} {x : Cxt}   (hf : m_fin 2 14 (QV A v σ ρ') X0 x) (hrm : m_rm 100 2 14 x)  : ∀ (y1 : Int32) (y2 : Int32) (z0 : Int32) (ρ : Zs) (h : Hp), Rp A h σ ρ → fX14_item_68   y1 y2 z0 ρ = some (.ok v, ρ') → wp x mX14_item 68 [(0, .ref (A 14 0 0)), (1, .int y1), (2, .int y2)] [.int z0, .ref (A 14 0 0)] h 1 7 := by
  intro y1 y2 z0 ρ h hz hr
  rw [fX14_item_68.eq_1] at hr
  refine w_iconst 4 dX14_item_68 rfl rfl ?_
  refine w_iload_n 2 dX14_item_69 rfl rfl rfl ?_
  obtain ⟨v10, ρ11, e12, hr⟩ := bw_some hr
  rcases v10 with w14e | w14
  · exact noko (bw_er hr)
  have hr := bw_ok hr
  refine c_X14_277 (As := [.int z0, .int 4, .int y2]) (rest := []) (fun l => t_X14_must  hz e12 l) hrm dX14_item_70 rfl rfl (Nat.le_of_ble_eq_true rfl) (Nat.le_of_ble_eq_true rfl) (Nat.le_of_ble_eq_true rfl) (hz.o14 rfl) rfl (Nat.le_of_ble_eq_true rfl) (fun vr h2 hq => ?_) (fun E9 h9 hq => hq.elim)
  obtain ⟨rfl, hz⟩ := hq
  show wp _ _ 73 [(0, .ref (A 14 0 0)), (1, .int y1), (2, .int y2)] [] _ _ _
  refine w_aload_n 0 dX14_item_73 rfl rfl rfl ?_
  refine w_sipush 200 dX14_item_74 rfl rfl ?_
  obtain ⟨v15, ρ16, e17, hr⟩ := bq_some hr
  refine c_X14_223 (As := [.int 200]) (rest := []) (fun l => s_X14_is  hz e17 l) hrm dX14_item_77 rfl rfl (Nat.le_of_ble_eq_true rfl) (Nat.le_of_ble_eq_true rfl) (Nat.le_of_ble_eq_true rfl) (hz.o14 rfl) rfl (Nat.le_of_ble_eq_true rfl) (fun vr h2 hq => ?_) (fun E9 h9 hq => hq.elim)
  obtain ⟨rfl, hz⟩ := hq
  show wp _ _ 80 [(0, .ref (A 14 0 0)), (1, .int y1), (2, .int y2)] [.int v15] _ _ _
  refine w_if_ne 88 dX14_item_80 rfl rfl (fun q80 => ?_) (fun q80 => ?_)
  · have hr := bf q80 hr
    refine w_aload_n 0 dX14_item_88 rfl rfl rfl ?_
    refine g_X14_30 dX14_item_89 rfl (hz.o14 rfl) (hz.r904 rfl) ?_
    refine w_aload_n 0 dX14_item_92 rfl rfl rfl ?_
    refine g_X14_204 dX14_item_93 rfl (hz.o14 rfl) (hz.i905 rfl) ?_
    obtain ⟨g19, hr⟩ := gd hr
    refine w_lald dX14_item_96 rfl (hz.k904 rfl) (gin (hz.n904 rfl) g19) (hz.x904 rfl) ?_
    refine w_lstore_n [(3, .long (zJ ρ16 1928 0 0 (Int32.toNatClampNeg (zI ρ16 905 0 0 0)))), (0, .ref (A 14 0 0)), (1, .int y1), (2, .int y2)] dX14_item_97 rfl rfl (by decide) rfl ?_
    refine w_aload_n 1 dX14_item_98 rfl rfl rfl ?_
    refine g_X14_27 dX14_item_99 rfl (hz.o14 rfl) (hz.r903 rfl) ?_
    refine w_aload_n 1 dX14_item_102 rfl rfl rfl ?_
    refine g_X14_204 dX14_item_103 rfl (hz.o14 rfl) (hz.i905 rfl) ?_
    obtain ⟨g20, hr⟩ := gd hr
    refine w_iald dX14_item_106 rfl (hz.k903 rfl) (gin (hz.n903 rfl) g20) (hz.x903 rfl) ?_
    refine w_istore [(5, .int (zI ρ16 1927 0 0 (Int32.toNatClampNeg (zI ρ16 905 0 0 0)))), (3, .long (zJ ρ16 1928 0 0 (Int32.toNatClampNeg (zI ρ16 905 0 0 0)))), (0, .ref (A 14 0 0)), (1, .int y1), (2, .int y2)] dX14_item_107 rfl (by decide) rfl ?_
    refine w_aload_n 2 dX14_item_109 rfl rfl rfl ?_
    refine w_aload_n 2 dX14_item_110 rfl rfl rfl ?_
    refine w_lload_n 1 dX14_item_111 rfl rfl rfl ?_
    obtain ⟨v21, ρ22, e23, hr⟩ := bq_some hr
    refine c_X14_301 (As := [.long (zJ ρ16 1928 0 0 (Int32.toNatClampNeg (zI ρ16 905 0 0 0)))]) (rest := [.ref (A 14 0 0)]) (fun l => s_X14_streamOf  hz e23 l) hrm dX14_item_112 rfl rfl (Nat.le_of_ble_eq_true rfl) (Nat.le_of_ble_eq_true rfl) (Nat.le_of_ble_eq_true rfl) (hz.o14 rfl) rfl (Nat.le_of_ble_eq_true rfl) (fun vr h2 hq => ?_) (fun E9 h9 hq => hq.elim)
    obtain ⟨rfl, hz⟩ := hq
    show wp _ _ 115 [(5, .int (zI ρ16 1927 0 0 (Int32.toNatClampNeg (zI ρ16 905 0 0 0)))), (3, .long (zJ ρ16 1928 0 0 (Int32.toNatClampNeg (zI ρ16 905 0 0 0)))), (0, .ref (A 14 0 0)), (1, .int y1), (2, .int y2)] [.int v21, .ref (A 14 0 0)] _ _ _
    refine w_iconst (-1) dX14_item_115 rfl rfl ?_
    refine w_icmp_ne 123 dX14_item_116 rfl rfl (fun q116 => ?_) (fun q116 => ?_)
    · have hr := bf q116 hr
      refine w_iconst 0 dX14_item_123 rfl rfl ?_
      refine w_lv [(0, .ref (A 14 0 0)), (1, .int y1), (3, .long (zJ ρ16 1928 0 0 (Int32.toNatClampNeg (zI ρ16 905 0 0 0)))), (5, .int (zI ρ16 1927 0 0 (Int32.toNatClampNeg (zI ρ16 905 0 0 0))))] [2, 3, 1, 0] rfl ?_
      exact u_X14_item_124 hf hrm   y1 (zJ ρ16 1928 0 0 (Int32.toNatClampNeg (zI ρ16 905 0 0 0))) (zI ρ16 1927 0 0 (Int32.toNatClampNeg (zI ρ16 905 0 0 0))) 0 _ _ hz  hr
    · have hr := bt q116 hr
      refine w_iconst 1 dX14_item_119 rfl rfl ?_
      refine w_goto 124 dX14_item_120 rfl ?_
      refine w_lv [(0, .ref (A 14 0 0)), (1, .int y1), (3, .long (zJ ρ16 1928 0 0 (Int32.toNatClampNeg (zI ρ16 905 0 0 0)))), (5, .int (zI ρ16 1927 0 0 (Int32.toNatClampNeg (zI ρ16 905 0 0 0))))] [2, 3, 1, 0] rfl ?_
      exact u_X14_item_124 hf hrm   y1 (zJ ρ16 1928 0 0 (Int32.toNatClampNeg (zI ρ16 905 0 0 0))) (zI ρ16 1927 0 0 (Int32.toNatClampNeg (zI ρ16 905 0 0 0))) 1 _ _ hz  hr
  · have hr := bt q80 hr
    refine w_aload_n 0 dX14_item_83 rfl rfl rfl ?_
    obtain ⟨w101, ρ102, e103, hr⟩ := bq_some hr
    exact noko hr
set_option maxRecDepth 20000 in
set_option maxHeartbeats 4000000 in
theorem t_X14_item {A : Nat → Nat → Nat → Nat} {h : Hp} {σ ρ ρ' : Zs} {v : Unit}   (hz : Rp A h σ ρ) (hr : fX14_item  ρ = some (.ok v, ρ')) : ∀ l : Launch, Sp l mX14_item 100 2 14 [.ref (A 14 0 0)] h (QV A v σ ρ') X0 := by
  intro l
  refine Sp.of rfl rfl (lv := [(0, .ref (A 14 0 0))]) (Nat.le_of_ble_eq_true rfl) rfl (fun x hf hrm => ?_)
  rw [fX14_item.eq_1] at hr
  refine w_aload_n 0 dX14_item_0 rfl rfl rfl ?_
  refine g_X14_24 dX14_item_1 rfl (hz.o14 rfl) (hz.r902 rfl) ?_
  refine w_aload_n 0 dX14_item_4 rfl rfl rfl ?_
  refine g_X14_204 dX14_item_5 rfl (hz.o14 rfl) (hz.i905 rfl) ?_
  obtain ⟨g1, hr⟩ := gd hr
  refine w_iald dX14_item_8 rfl (hz.k902 rfl) (gin (hz.n902 rfl) g1) (hz.x902 rfl) ?_
  refine w_istore_n [(1, .int (zI ρ 1926 0 0 (Int32.toNatClampNeg (zI ρ 905 0 0 0)))), (0, .ref (A 14 0 0))] dX14_item_9 rfl rfl (by decide) rfl ?_
  refine w_aload_n 1 dX14_item_10 rfl rfl rfl ?_
  refine g_X14_27 dX14_item_11 rfl (hz.o14 rfl) (hz.r903 rfl) ?_
  refine w_aload_n 1 dX14_item_14 rfl rfl rfl ?_
  refine g_X14_204 dX14_item_15 rfl (hz.o14 rfl) (hz.i905 rfl) ?_
  obtain ⟨g2, hr⟩ := gd hr
  refine w_iald dX14_item_18 rfl (hz.k903 rfl) (gin (hz.n903 rfl) g2) (hz.x903 rfl) ?_
  refine w_istore_n [(2, .int (zI ρ 1927 0 0 (Int32.toNatClampNeg (zI ρ 905 0 0 0)))), (1, .int (zI ρ 1926 0 0 (Int32.toNatClampNeg (zI ρ 905 0 0 0)))), (0, .ref (A 14 0 0))] dX14_item_19 rfl rfl (by decide) rfl ?_
  refine w_iload_n 1 dX14_item_20 rfl rfl rfl ?_
  refine w_bipush 17 dX14_item_21 rfl rfl ?_
  refine w_icmp_ne 32 dX14_item_23 rfl rfl (fun q23 => ?_) (fun q23 => ?_)
  · have hr := bf q23 hr
    refine w_iload_n 1 dX14_item_32 rfl rfl rfl ?_
    refine w_if_eq 46 dX14_item_33 rfl rfl (fun q33 => ?_) (fun q33 => ?_)
    · have hr := bt q33 hr
      refine w_aload_n 2 dX14_item_46 rfl rfl rfl ?_
      obtain ⟨v3, ρ4, e5, hr⟩ := bw_some hr
      rcases v3 with w7e | w7
      · exact noko (bw_er hr)
      have hr := bw_ok hr
      refine c_X14_226 (As := []) (rest := []) (fun l => t_X14_take  hz e5 l) hrm dX14_item_47 rfl rfl (Nat.le_of_ble_eq_true rfl) (Nat.le_of_ble_eq_true rfl) (Nat.le_of_ble_eq_true rfl) (hz.o14 rfl) rfl (Nat.le_of_ble_eq_true rfl) (fun vr h2 hq => ?_) (fun E9 h9 hq => hq.elim)
      obtain ⟨rfl, hz⟩ := hq
      show wp _ _ 50 [(2, .int (zI ρ 1927 0 0 (Int32.toNatClampNeg (zI ρ 905 0 0 0)))), (1, .int (zI ρ 1926 0 0 (Int32.toNatClampNeg (zI ρ 905 0 0 0)))), (0, .ref (A 14 0 0))] [] _ _ _
      refine w_aload_n 2 dX14_item_50 rfl rfl rfl ?_
      refine w_aload_n 2 dX14_item_51 rfl rfl rfl ?_
      obtain ⟨g9, hr⟩ := gd hr
      have hv8 := hz.ww909 (p := 0) (s := 0) rfl g9
      refine g_X14_232 dX14_item_52 rfl (hz.o14 rfl) (hz.rr909 rfl g9) ?_
      refine g_X14_298 dX14_item_55 rfl (hz.o12 hv8) (hz.i768 hv8) ?_
      refine w_bipush 12 dX14_item_58 rfl rfl ?_
      refine w_icmp_ge 67 dX14_item_60 rfl rfl (fun q60 => ?_) (fun q60 => ?_)
      · have hr := bt q60 hr
        refine w_iconst 0 dX14_item_67 rfl rfl ?_
        refine w_lv [(0, .ref (A 14 0 0)), (1, .int (zI ρ 1926 0 0 (Int32.toNatClampNeg (zI ρ 905 0 0 0)))), (2, .int (zI ρ 1927 0 0 (Int32.toNatClampNeg (zI ρ 905 0 0 0))))] [2, 1, 0] rfl ?_
        refine w_widen (kc' := 1) (ks' := 7) (Nat.le_of_ble_eq_true rfl) (Nat.le_of_ble_eq_true rfl) ?_
        exact u_X14_item_68 hf hrm   (zI ρ 1926 0 0 (Int32.toNatClampNeg (zI ρ 905 0 0 0))) (zI ρ 1927 0 0 (Int32.toNatClampNeg (zI ρ 905 0 0 0))) 0 _ _ hz  hr
      · have hr := bf q60 hr
        refine w_iconst 1 dX14_item_63 rfl rfl ?_
        refine w_goto 68 dX14_item_64 rfl ?_
        refine w_lv [(0, .ref (A 14 0 0)), (1, .int (zI ρ 1926 0 0 (Int32.toNatClampNeg (zI ρ 905 0 0 0)))), (2, .int (zI ρ 1927 0 0 (Int32.toNatClampNeg (zI ρ 905 0 0 0))))] [2, 1, 0] rfl ?_
        refine w_widen (kc' := 1) (ks' := 7) (Nat.le_of_ble_eq_true rfl) (Nat.le_of_ble_eq_true rfl) ?_
        exact u_X14_item_68 hf hrm   (zI ρ 1926 0 0 (Int32.toNatClampNeg (zI ρ 905 0 0 0))) (zI ρ 1927 0 0 (Int32.toNatClampNeg (zI ρ 905 0 0 0))) 1 _ _ hz  hr
    · have hr := bf q33 hr
      refine w_iload_n 1 dX14_item_36 rfl rfl rfl ?_
      refine w_iconst 2 dX14_item_37 rfl rfl ?_
      refine w_icmp_eq 46 dX14_item_38 rfl rfl (fun q38 => ?_) (fun q38 => ?_)
      · have hr := bt q38 hr
        refine w_aload_n 2 dX14_item_46 rfl rfl rfl ?_
        obtain ⟨v104, ρ105, e106, hr⟩ := bw_some hr
        rcases v104 with w108e | w108
        · exact noko (bw_er hr)
        have hr := bw_ok hr
        refine c_X14_226 (As := []) (rest := []) (fun l => t_X14_take  hz e106 l) hrm dX14_item_47 rfl rfl (Nat.le_of_ble_eq_true rfl) (Nat.le_of_ble_eq_true rfl) (Nat.le_of_ble_eq_true rfl) (hz.o14 rfl) rfl (Nat.le_of_ble_eq_true rfl) (fun vr h2 hq => ?_) (fun E9 h9 hq => hq.elim)
        obtain ⟨rfl, hz⟩ := hq
        show wp _ _ 50 [(2, .int (zI ρ 1927 0 0 (Int32.toNatClampNeg (zI ρ 905 0 0 0)))), (1, .int (zI ρ 1926 0 0 (Int32.toNatClampNeg (zI ρ 905 0 0 0)))), (0, .ref (A 14 0 0))] [] _ _ _
        refine w_aload_n 2 dX14_item_50 rfl rfl rfl ?_
        refine w_aload_n 2 dX14_item_51 rfl rfl rfl ?_
        obtain ⟨g110, hr⟩ := gd hr
        have hv109 := hz.ww909 (p := 0) (s := 0) rfl g110
        refine g_X14_232 dX14_item_52 rfl (hz.o14 rfl) (hz.rr909 rfl g110) ?_
        refine g_X14_298 dX14_item_55 rfl (hz.o12 hv109) (hz.i768 hv109) ?_
        refine w_bipush 12 dX14_item_58 rfl rfl ?_
        refine w_icmp_ge 67 dX14_item_60 rfl rfl (fun q60 => ?_) (fun q60 => ?_)
        · have hr := bt q60 hr
          refine w_iconst 0 dX14_item_67 rfl rfl ?_
          refine w_lv [(0, .ref (A 14 0 0)), (1, .int (zI ρ 1926 0 0 (Int32.toNatClampNeg (zI ρ 905 0 0 0)))), (2, .int (zI ρ 1927 0 0 (Int32.toNatClampNeg (zI ρ 905 0 0 0))))] [2, 1, 0] rfl ?_
          refine w_widen (kc' := 1) (ks' := 7) (Nat.le_of_ble_eq_true rfl) (Nat.le_of_ble_eq_true rfl) ?_
          exact u_X14_item_68 hf hrm   (zI ρ 1926 0 0 (Int32.toNatClampNeg (zI ρ 905 0 0 0))) (zI ρ 1927 0 0 (Int32.toNatClampNeg (zI ρ 905 0 0 0))) 0 _ _ hz  hr
        · have hr := bf q60 hr
          refine w_iconst 1 dX14_item_63 rfl rfl ?_
          refine w_goto 68 dX14_item_64 rfl ?_
          refine w_lv [(0, .ref (A 14 0 0)), (1, .int (zI ρ 1926 0 0 (Int32.toNatClampNeg (zI ρ 905 0 0 0)))), (2, .int (zI ρ 1927 0 0 (Int32.toNatClampNeg (zI ρ 905 0 0 0))))] [2, 1, 0] rfl ?_
          refine w_widen (kc' := 1) (ks' := 7) (Nat.le_of_ble_eq_true rfl) (Nat.le_of_ble_eq_true rfl) ?_
          exact u_X14_item_68 hf hrm   (zI ρ 1926 0 0 (Int32.toNatClampNeg (zI ρ 905 0 0 0))) (zI ρ 1927 0 0 (Int32.toNatClampNeg (zI ρ 905 0 0 0))) 1 _ _ hz  hr
      · have hr := bf q38 hr
        refine w_aload_n 2 dX14_item_41 rfl rfl rfl ?_
        obtain ⟨w111, ρ112, e113, hr⟩ := bq_some hr
        exact noko hr
  · have hr := bt q23 hr
    refine w_aload_n 2 dX14_item_26 rfl rfl rfl ?_
    refine w_iload_n 0 dX14_item_27 rfl rfl rfl ?_
    obtain ⟨v114, ρ115, e116, hr⟩ := bw_some hr
    rcases v114 with w118e | w118
    · exact noko (bw_er hr)
    have hr := bw_ok hr
    refine c_X14_320 (As := [.int (zI ρ 1927 0 0 (Int32.toNatClampNeg (zI ρ 905 0 0 0)))]) (rest := []) (fun l => t_X14_check  hz e116 l) hrm dX14_item_28 rfl rfl (Nat.le_of_ble_eq_true rfl) (Nat.le_of_ble_eq_true rfl) (Nat.le_of_ble_eq_true rfl) (hz.o14 rfl) rfl (Nat.le_of_ble_eq_true rfl) (fun vr h2 hq => ?_) (fun E9 h9 hq => hq.elim)
    obtain ⟨rfl, hz⟩ := hq
    show wp _ _ 31 [(2, .int (zI ρ 1927 0 0 (Int32.toNatClampNeg (zI ρ 905 0 0 0)))), (1, .int (zI ρ 1926 0 0 (Int32.toNatClampNeg (zI ρ 905 0 0 0)))), (0, .ref (A 14 0 0))] [] _ _ _
    refine w_vret hf dX14_item_31 rfl (Nat.le_of_ble_eq_true rfl) (Nat.le_of_ble_eq_true rfl) ?_
    obtain ⟨rfl, rfl⟩ := retw hr
    exact ⟨rfl, hz⟩

set_option maxRecDepth 20000 in
set_option maxHeartbeats 4000000 in
theorem x_X14_item_263 {A : Nat → Nat → Nat → Nat} {σ ρ' : Zs} {v : Int32 × Int32} {x : Cxt}   (hf : m_fin 3 22 QF (XW A v σ ρ') x) (hrm : m_rm 100 3 22 x)  : ∀ (n : Nat) (y6 : Int32) (y7 : Int32) (ρ : Zs) (h : Hp), Rp A h σ ρ → fX14_item_263   n y6 y7 ρ = some (.error v, ρ') → wp x mX14_item 263 [(0, .ref (A 14 0 0)), (6, .int y6), (7, .int y7)] [] h 2 14
  | 0, _, _, ρ, h => fun hz hr => by
    rw [fX14_item_263.eq_1] at hr
    exact nono hr
  | n + 1, y6, y7, ρ, h => fun hz hr => by
    rw [fX14_item_263.eq_2] at hr
    refine w_iload 2 dX14_item_263 rfl rfl ?_
    refine w_aload_n 0 dX14_item_265 rfl rfl rfl ?_
    refine g_X14_313 dX14_item_266 rfl (hz.o14 rfl) (hz.i911 rfl) ?_
    refine w_icmp_ge 347 dX14_item_269 rfl rfl (fun q269 => ?_) (fun q269 => ?_)
    · have hr := bt q269 hr
      refine w_aload_n 0 dX14_item_347 rfl rfl rfl ?_
      obtain ⟨g73, hr⟩ := gd hr
      have hv72 := hz.ww909 (p := 0) (s := 0) rfl g73
      refine g_X14_232 dX14_item_348 rfl (hz.o14 rfl) (hz.rr909 rfl g73) ?_
      refine w_dup dX14_item_351 rfl rfl ?_
      refine g_X14_298 dX14_item_352 rfl (hz.o12 hv72) (hz.i768 hv72) ?_
      refine w_iconst 1 dX14_item_355 rfl rfl ?_
      refine w_iadd dX14_item_356 rfl ?_
      refine p_X14_298 dX14_item_357 rfl (hz.o12 hv72) ?_
      obtain ⟨ρ74, e75, hr⟩ := lt_e hr
      have hz := (hz.s768 (v := ((zI ρ 768 ((zR ρ 909 0 0 0).1) 0 0) + 1)) hv72).tr e75
      exact noek hr
    · have hr := bf q269 hr
      refine w_aload_n 0 dX14_item_272 rfl rfl rfl ?_
      obtain ⟨g77, hr⟩ := gd hr
      have hv76 := hz.ww909 (p := 0) (s := 0) rfl g77
      refine g_X14_232 dX14_item_273 rfl (hz.o14 rfl) (hz.rr909 rfl g77) ?_
      refine g_X14_289 dX14_item_276 rfl (hz.o12 hv76) (hz.r772 hv76) ?_
      refine w_bipush 6 dX14_item_279 rfl rfl ?_
      refine w_iload 1 dX14_item_281 rfl rfl ?_
      refine w_imul dX14_item_283 rfl ?_
      refine w_iload 2 dX14_item_284 rfl rfl ?_
      refine w_iadd dX14_item_286 rfl ?_
      refine w_aload_n 0 dX14_item_287 rfl rfl rfl ?_
      refine g_X14_33 dX14_item_288 rfl (hz.o14 rfl) (hz.r912 rfl) ?_
      refine w_iload 2 dX14_item_291 rfl rfl ?_
      obtain ⟨g78, hr⟩ := gd hr
      refine w_lald dX14_item_293 rfl (hz.k912 rfl) (gin (hz.n912 rfl) g78) (hz.x912 rfl) ?_
      obtain ⟨g79, hr⟩ := gd hr
      refine w_last dX14_item_294 rfl (hz.k772 hv76) (gin (hz.n772 hv76) g79) ?_
      obtain ⟨ρ80, e81, hr⟩ := lt_e hr
      have hz := (hz.s772 (i := (Int32.toNatClampNeg ((6 * y6) + y7))) (v := (zJ ρ 1936 0 0 (Int32.toNatClampNeg y7))) hv76).tr e81
      refine w_aload_n 0 dX14_item_295 rfl rfl rfl ?_
      obtain ⟨g83, hr⟩ := gd hr
      have hv82 := hz.ww909 (p := 0) (s := 0) rfl g83
      refine g_X14_232 dX14_item_296 rfl (hz.o14 rfl) (hz.rr909 rfl g83) ?_
      refine g_X14_335 dX14_item_299 rfl (hz.o12 hv82) (hz.r779 hv82) ?_
      refine w_bipush 6 dX14_item_302 rfl rfl ?_
      refine w_iload 1 dX14_item_304 rfl rfl ?_
      refine w_imul dX14_item_306 rfl ?_
      refine w_iload 2 dX14_item_307 rfl rfl ?_
      refine w_iadd dX14_item_309 rfl ?_
      refine w_aload_n 0 dX14_item_310 rfl rfl rfl ?_
      refine g_X14_36 dX14_item_311 rfl (hz.o14 rfl) (hz.r913 rfl) ?_
      refine w_iload 2 dX14_item_314 rfl rfl ?_
      obtain ⟨g84, hr⟩ := gd hr
      refine w_iald dX14_item_316 rfl (hz.k913 rfl) (gin (hz.n913 rfl) g84) (hz.x913 rfl) ?_
      obtain ⟨g85, hr⟩ := gd hr
      refine w_iast dX14_item_317 rfl (hz.k779 hv82) (gin (hz.n779 hv82) g85) ?_
      obtain ⟨ρ86, e87, hr⟩ := lt_e hr
      have hz := (hz.s779 (i := (Int32.toNatClampNeg ((6 * y6) + y7))) (v := (zI ρ80 1937 0 0 (Int32.toNatClampNeg y7))) hv82).tr e87
      refine w_aload_n 0 dX14_item_318 rfl rfl rfl ?_
      obtain ⟨g89, hr⟩ := gd hr
      have hv88 := hz.ww909 (p := 0) (s := 0) rfl g89
      refine g_X14_232 dX14_item_319 rfl (hz.o14 rfl) (hz.rr909 rfl g89) ?_
      refine g_X14_338 dX14_item_322 rfl (hz.o12 hv88) (hz.r780 hv88) ?_
      refine w_bipush 6 dX14_item_325 rfl rfl ?_
      refine w_iload 1 dX14_item_327 rfl rfl ?_
      refine w_imul dX14_item_329 rfl ?_
      refine w_iload 2 dX14_item_330 rfl rfl ?_
      refine w_iadd dX14_item_332 rfl ?_
      refine w_aload_n 0 dX14_item_333 rfl rfl rfl ?_
      refine g_X14_39 dX14_item_334 rfl (hz.o14 rfl) (hz.r914 rfl) ?_
      refine w_iload 2 dX14_item_337 rfl rfl ?_
      obtain ⟨g90, hr⟩ := gd hr
      refine w_iald dX14_item_339 rfl (hz.k914 rfl) (gin (hz.n914 rfl) g90) (hz.x914 rfl) ?_
      obtain ⟨g91, hr⟩ := gd hr
      refine w_iast dX14_item_340 rfl (hz.k780 hv88) (gin (hz.n780 hv88) g91) ?_
      obtain ⟨ρ92, e93, hr⟩ := lt_e hr
      have hz := (hz.s780 (i := (Int32.toNatClampNeg ((6 * y6) + y7))) (v := (zI ρ86 1938 0 0 (Int32.toNatClampNeg y7))) hv88).tr e93
      refine w_iinc 2 (y7 + 1) [(7, .int (y7 + 1)), (0, .ref (A 14 0 0)), (6, .int y6)] dX14_item_341 rfl rfl rfl (by decide) rfl ?_
      refine w_goto 263 dX14_item_344 rfl ?_
      refine w_lv [(0, .ref (A 14 0 0)), (6, .int y6), (7, .int (y7 + 1))] [1, 2, 0] rfl ?_
      exact x_X14_item_263 hf hrm   n y6 (y7 + 1) _ _ hz  hr
set_option maxRecDepth 20000 in
set_option maxHeartbeats 4000000 in
theorem x_X14_item_221 {A : Nat → Nat → Nat → Nat} {σ ρ' : Zs} {v : Int32 × Int32} {x : Cxt}   (hf : m_fin 3 22 QF (XW A v σ ρ') x) (hrm : m_rm 100 3 22 x)  : ∀ (y3 : Int64) (y5 : Int32) (y6 : Int32) (z0 : Int32) (ρ : Zs) (h : Hp), Rp A h σ ρ → fX14_item_221   y3 y5 y6 z0 ρ = some (.error v, ρ') → wp x mX14_item 221 [(0, .ref (A 14 0 0)), (3, .long y3), (5, .int y5), (6, .int y6)] [.int z0, .ref (A 14 0 0)] h 2 14 := by
  intro y3 y5 y6 z0 ρ h hz hr
  rw [fX14_item_221.eq_1] at hr
  refine w_iconst 4 dX14_item_221 rfl rfl ?_
  refine w_iload 2 dX14_item_222 rfl rfl ?_
  obtain ⟨v57, ρ58, e59, hr⟩ := bw_some hr
  rcases v57 with w61e | w61
  · obtain ⟨rfl, rfl⟩ := rete (bw_er hr)
    refine c_X14_277 (As := [.int z0, .int 4, .int y5]) (rest := []) (fun l => e_X14_must  hz e59 l) hrm dX14_item_224 rfl rfl (Nat.le_of_ble_eq_true rfl) (Nat.le_of_ble_eq_true rfl) (Nat.le_of_ble_eq_true rfl) (hz.o14 rfl) rfl (Nat.le_of_ble_eq_true rfl) (fun vr h2 hq => hq.elim) (fun E9 h9 hq => ?_)
    exact w_out hf (Nat.le_of_ble_eq_true rfl) (Nat.le_of_ble_eq_true rfl) hq
  have hr := bw_ok hr
  refine c_X14_277 (As := [.int z0, .int 4, .int y5]) (rest := []) (fun l => t_X14_must  hz e59 l) hrm dX14_item_224 rfl rfl (Nat.le_of_ble_eq_true rfl) (Nat.le_of_ble_eq_true rfl) (Nat.le_of_ble_eq_true rfl) (hz.o14 rfl) rfl (Nat.le_of_ble_eq_true rfl) (fun vr h2 hq => ?_) (fun E9 h9 hq => hq.elim)
  obtain ⟨rfl, hz⟩ := hq
  show wp _ _ 227 [(0, .ref (A 14 0 0)), (3, .long y3), (5, .int y5), (6, .int y6)] [] _ _ _
  refine w_aload_n 0 dX14_item_227 rfl rfl rfl ?_
  refine g_X14_212 dX14_item_228 rfl (hz.o14 rfl) (hz.i906 rfl) ?_
  refine w_if_ne 235 dX14_item_231 rfl rfl (fun q231 => ?_) (fun q231 => ?_)
  · have hr := bf q231 hr
    refine w_aload_n 0 dX14_item_235 rfl rfl rfl ?_
    obtain ⟨g63, hr⟩ := gd hr
    have hv62 := hz.ww909 (p := 0) (s := 0) rfl g63
    refine g_X14_232 dX14_item_236 rfl (hz.o14 rfl) (hz.rr909 rfl g63) ?_
    refine g_X14_295 dX14_item_239 rfl (hz.o12 hv62) (hz.r769 hv62) ?_
    refine w_iload 3 dX14_item_242 rfl rfl ?_
    refine w_lload_n 1 dX14_item_244 rfl rfl rfl ?_
    obtain ⟨g64, hr⟩ := gd hr
    refine w_last dX14_item_245 rfl (hz.k769 hv62) (gin (hz.n769 hv62) g64) ?_
    obtain ⟨ρ65, e66, hr⟩ := lt_e hr
    have hz := (hz.s769 (i := (Int32.toNatClampNeg y6)) (v := y3) hv62).tr e66
    refine w_aload_n 0 dX14_item_246 rfl rfl rfl ?_
    obtain ⟨g68, hr⟩ := gd hr
    have hv67 := hz.ww909 (p := 0) (s := 0) rfl g68
    refine g_X14_232 dX14_item_247 rfl (hz.o14 rfl) (hz.rr909 rfl g68) ?_
    refine g_X14_292 dX14_item_250 rfl (hz.o12 hv67) (hz.r771 hv67) ?_
    refine w_iload 3 dX14_item_253 rfl rfl ?_
    refine w_aload_n 0 dX14_item_255 rfl rfl rfl ?_
    refine g_X14_313 dX14_item_256 rfl (hz.o14 rfl) (hz.i911 rfl) ?_
    obtain ⟨g69, hr⟩ := gd hr
    refine w_iast dX14_item_259 rfl (hz.k771 hv67) (gin (hz.n771 hv67) g69) ?_
    obtain ⟨ρ70, e71, hr⟩ := lt_e hr
    have hz := (hz.s771 (i := (Int32.toNatClampNeg y6)) (v := (zI ρ65 911 0 0 0)) hv67).tr e71
    refine w_iconst 0 dX14_item_260 rfl rfl ?_
    refine w_istore [(7, .int 0), (0, .ref (A 14 0 0)), (3, .long y3), (5, .int y5), (6, .int y6)] dX14_item_261 rfl (by decide) rfl ?_
    refine w_lv [(0, .ref (A 14 0 0)), (6, .int y6), (7, .int 0)] [1, 4, 0] rfl ?_
    exact x_X14_item_263 hf hrm   FU y6 0 _ _ hz  hr
  · have hr := bt q231 hr
    exact noek hr
set_option maxRecDepth 20000 in
set_option maxHeartbeats 4000000 in
theorem x_X14_item_157 {A : Nat → Nat → Nat → Nat} {σ ρ' : Zs} {v : Int32 × Int32} {x : Cxt}   (hf : m_fin 3 22 QF (XW A v σ ρ') x) (hrm : m_rm 100 3 22 x)  : ∀ (y1 : Int32) (y3 : Int64) (y5 : Int32) (z0 : Int32) (ρ : Zs) (h : Hp), Rp A h σ ρ → fX14_item_157   y1 y3 y5 z0 ρ = some (.error v, ρ') → wp x mX14_item 157 [(0, .ref (A 14 0 0)), (1, .int y1), (3, .long y3), (5, .int y5)] [.int z0] h 1 7 := by
  intro y1 y3 y5 z0 ρ h hz hr
  rw [fX14_item_157.eq_1] at hr
  refine w_istore [(6, .int z0), (0, .ref (A 14 0 0)), (1, .int y1), (3, .long y3), (5, .int y5)] dX14_item_157 rfl (by decide) rfl ?_
  refine w_aload_n 1 dX14_item_159 rfl rfl rfl ?_
  obtain ⟨g38, hr⟩ := gd hr
  have hv37 := hz.ww909 (p := 0) (s := 0) rfl g38
  refine g_X14_232 dX14_item_160 rfl (hz.o14 rfl) (hz.rr909 rfl g38) ?_
  refine g_X14_323 dX14_item_163 rfl (hz.o12 hv37) (hz.r773 hv37) ?_
  refine w_iload 0 dX14_item_166 rfl rfl ?_
  refine w_iconst (-1) dX14_item_168 rfl rfl ?_
  obtain ⟨g39, hr⟩ := gd hr
  refine w_iast dX14_item_169 rfl (hz.k773 hv37) (gin (hz.n773 hv37) g39) ?_
  obtain ⟨ρ40, e41, hr⟩ := lt_e hr
  have hz := (hz.s773 (i := (Int32.toNatClampNeg z0)) (v := (-1)) hv37).tr e41
  refine w_aload_n 1 dX14_item_170 rfl rfl rfl ?_
  obtain ⟨g43, hr⟩ := gd hr
  have hv42 := hz.ww909 (p := 0) (s := 0) rfl g43
  refine g_X14_232 dX14_item_171 rfl (hz.o14 rfl) (hz.rr909 rfl g43) ?_
  refine g_X14_326 dX14_item_174 rfl (hz.o12 hv42) (hz.r774 hv42) ?_
  refine w_iload 0 dX14_item_177 rfl rfl ?_
  refine w_iconst (-1) dX14_item_179 rfl rfl ?_
  obtain ⟨g44, hr⟩ := gd hr
  refine w_iast dX14_item_180 rfl (hz.k774 hv42) (gin (hz.n774 hv42) g44) ?_
  obtain ⟨ρ45, e46, hr⟩ := lt_e hr
  have hz := (hz.s774 (i := (Int32.toNatClampNeg z0)) (v := (-1)) hv42).tr e46
  refine w_iload_n 2 dX14_item_181 rfl rfl rfl ?_
  refine w_if_ne 194 dX14_item_182 rfl rfl (fun q182 => ?_) (fun q182 => ?_)
  · have hr := bf q182 hr
    refine w_aload_n 1 dX14_item_194 rfl rfl rfl ?_
    refine w_bipush 104 dX14_item_195 rfl rfl ?_
    obtain ⟨v47, ρ48, e49, hr⟩ := bw_some hr
    rcases v47 with w51e | w51
    · obtain ⟨rfl, rfl⟩ := rete (bw_er hr)
      refine c_X14_284 (As := [.int 104]) (rest := []) (fun l => e_X14_take_  hz e49 l) hrm dX14_item_197 rfl rfl (Nat.le_of_ble_eq_true rfl) (Nat.le_of_ble_eq_true rfl) (Nat.le_of_ble_eq_true rfl) (hz.o14 rfl) rfl (Nat.le_of_ble_eq_true rfl) (fun vr h2 hq => hq.elim) (fun E9 h9 hq => ?_)
      exact w_out hf (Nat.le_of_ble_eq_true rfl) (Nat.le_of_ble_eq_true rfl) hq
    have hr := bw_ok hr
    refine c_X14_284 (As := [.int 104]) (rest := []) (fun l => t_X14_take_  hz e49 l) hrm dX14_item_197 rfl rfl (Nat.le_of_ble_eq_true rfl) (Nat.le_of_ble_eq_true rfl) (Nat.le_of_ble_eq_true rfl) (hz.o14 rfl) rfl (Nat.le_of_ble_eq_true rfl) (fun vr h2 hq => ?_) (fun E9 h9 hq => hq.elim)
    obtain ⟨rfl, hz⟩ := hq
    show wp _ _ 200 [(6, .int z0), (0, .ref (A 14 0 0)), (1, .int y1), (3, .long y3), (5, .int y5)] [] _ _ _
    refine w_aload_n 1 dX14_item_200 rfl rfl rfl ?_
    refine w_iload 0 dX14_item_201 rfl rfl ?_
    obtain ⟨v52, ρ53, e54, hr⟩ := bw_some hr
    rcases v52 with w56e | w56
    · obtain ⟨rfl, rfl⟩ := rete (bw_er hr)
      refine c_X14_332 (As := [.int z0]) (rest := []) (fun l => e_X14_work  hz e54 l) hrm dX14_item_203 rfl rfl (Nat.le_of_ble_eq_true rfl) (Nat.le_of_ble_eq_true rfl) (Nat.le_of_ble_eq_true rfl) (hz.o14 rfl) rfl (Nat.le_of_ble_eq_true rfl) (fun vr h2 hq => hq.elim) (fun E9 h9 hq => ?_)
      exact w_out hf (Nat.le_of_ble_eq_true rfl) (Nat.le_of_ble_eq_true rfl) hq
    have hr := bw_ok hr
    refine c_X14_332 (As := [.int z0]) (rest := []) (fun l => t_X14_work  hz e54 l) hrm dX14_item_203 rfl rfl (Nat.le_of_ble_eq_true rfl) (Nat.le_of_ble_eq_true rfl) (Nat.le_of_ble_eq_true rfl) (hz.o14 rfl) rfl (Nat.le_of_ble_eq_true rfl) (fun vr h2 hq => ?_) (fun E9 h9 hq => hq.elim)
    obtain ⟨rfl, hz⟩ := hq
    show wp _ _ 206 [(6, .int z0), (0, .ref (A 14 0 0)), (1, .int y1), (3, .long y3), (5, .int y5)] [] _ _ _
    refine w_aload_n 1 dX14_item_206 rfl rfl rfl ?_
    refine w_aload_n 1 dX14_item_207 rfl rfl rfl ?_
    refine g_X14_313 dX14_item_208 rfl (hz.o14 rfl) (hz.i911 rfl) ?_
    refine w_bipush 6 dX14_item_211 rfl rfl ?_
    refine w_icmp_gt 220 dX14_item_213 rfl rfl (fun q213 => ?_) (fun q213 => ?_)
    · have hr := bt q213 hr
      refine w_iconst 0 dX14_item_220 rfl rfl ?_
      refine w_lv [(0, .ref (A 14 0 0)), (3, .long y3), (5, .int y5), (6, .int z0)] [1, 3, 4, 0] rfl ?_
      exact x_X14_item_221 hf hrm   y3 y5 z0 0 _ _ hz  hr
    · have hr := bf q213 hr
      refine w_iconst 1 dX14_item_216 rfl rfl ?_
      refine w_goto 221 dX14_item_217 rfl ?_
      refine w_lv [(0, .ref (A 14 0 0)), (3, .long y3), (5, .int y5), (6, .int z0)] [1, 3, 4, 0] rfl ?_
      exact x_X14_item_221 hf hrm   y3 y5 z0 1 _ _ hz  hr
  · have hr := bt q182 hr
    refine w_aload_n 1 dX14_item_185 rfl rfl rfl ?_
    refine w_iload 0 dX14_item_186 rfl rfl ?_
    obtain ⟨v94, ρ95, e96, hr⟩ := bw_some hr
    rcases v94 with w98e | w98
    · obtain ⟨rfl, rfl⟩ := rete (bw_er hr)
      refine c_X14_329 (As := [.int z0]) (rest := []) (fun l => e_X14_source  hz e96 l) hrm dX14_item_188 rfl rfl (Nat.le_of_ble_eq_true rfl) (Nat.le_of_ble_eq_true rfl) (Nat.le_of_ble_eq_true rfl) (hz.o14 rfl) rfl (Nat.le_of_ble_eq_true rfl) (fun vr h2 hq => hq.elim) (fun E9 h9 hq => ?_)
      exact w_out hf (Nat.le_of_ble_eq_true rfl) (Nat.le_of_ble_eq_true rfl) hq
    have hr := bw_ok hr
    refine c_X14_329 (As := [.int z0]) (rest := []) (fun l => t_X14_source  hz e96 l) hrm dX14_item_188 rfl rfl (Nat.le_of_ble_eq_true rfl) (Nat.le_of_ble_eq_true rfl) (Nat.le_of_ble_eq_true rfl) (hz.o14 rfl) rfl (Nat.le_of_ble_eq_true rfl) (fun vr h2 hq => ?_) (fun E9 h9 hq => hq.elim)
    obtain ⟨rfl, hz⟩ := hq
    show wp _ _ 191 [(6, .int z0), (0, .ref (A 14 0 0)), (1, .int y1), (3, .long y3), (5, .int y5)] [] _ _ _
    refine w_goto 206 dX14_item_191 rfl ?_
    refine w_aload_n 1 dX14_item_206 rfl rfl rfl ?_
    refine w_aload_n 1 dX14_item_207 rfl rfl rfl ?_
    refine g_X14_313 dX14_item_208 rfl (hz.o14 rfl) (hz.i911 rfl) ?_
    refine w_bipush 6 dX14_item_211 rfl rfl ?_
    refine w_icmp_gt 220 dX14_item_213 rfl rfl (fun q213 => ?_) (fun q213 => ?_)
    · have hr := bt q213 hr
      refine w_iconst 0 dX14_item_220 rfl rfl ?_
      refine w_lv [(0, .ref (A 14 0 0)), (3, .long y3), (5, .int y5), (6, .int z0)] [1, 3, 4, 0] rfl ?_
      refine w_widen (kc' := 2) (ks' := 14) (Nat.le_of_ble_eq_true rfl) (Nat.le_of_ble_eq_true rfl) ?_
      exact x_X14_item_221 hf hrm   y3 y5 z0 0 _ _ hz  hr
    · have hr := bf q213 hr
      refine w_iconst 1 dX14_item_216 rfl rfl ?_
      refine w_goto 221 dX14_item_217 rfl ?_
      refine w_lv [(0, .ref (A 14 0 0)), (3, .long y3), (5, .int y5), (6, .int z0)] [1, 3, 4, 0] rfl ?_
      refine w_widen (kc' := 2) (ks' := 14) (Nat.le_of_ble_eq_true rfl) (Nat.le_of_ble_eq_true rfl) ?_
      exact x_X14_item_221 hf hrm   y3 y5 z0 1 _ _ hz  hr
set_option maxRecDepth 20000 in
set_option maxHeartbeats 4000000 in
theorem x_X14_item_124 {A : Nat → Nat → Nat → Nat} {σ ρ' : Zs} {v : Int32 × Int32} {x : Cxt}   (hf : m_fin 3 22 QF (XW A v σ ρ') x) (hrm : m_rm 100 3 22 x)  : ∀ (y1 : Int32) (y3 : Int64) (y5 : Int32) (z0 : Int32) (ρ : Zs) (h : Hp), Rp A h σ ρ → fX14_item_124   y1 y3 y5 z0 ρ = some (.error v, ρ') → wp x mX14_item 124 [(0, .ref (A 14 0 0)), (1, .int y1), (3, .long y3), (5, .int y5)] [.int z0, .ref (A 14 0 0)] h 1 7 := by
  intro y1 y3 y5 z0 ρ h hz hr
  rw [fX14_item_124.eq_1] at hr
  refine w_iconst 5 dX14_item_124 rfl rfl ?_
  refine w_iload 3 dX14_item_125 rfl rfl ?_
  obtain ⟨v25, ρ26, e27, hr⟩ := bw_some hr
  rcases v25 with w29e | w29
  · obtain ⟨rfl, rfl⟩ := rete (bw_er hr)
    refine c_X14_277 (As := [.int z0, .int 5, .int y5]) (rest := []) (fun l => e_X14_must  hz e27 l) hrm dX14_item_127 rfl rfl (Nat.le_of_ble_eq_true rfl) (Nat.le_of_ble_eq_true rfl) (Nat.le_of_ble_eq_true rfl) (hz.o14 rfl) rfl (Nat.le_of_ble_eq_true rfl) (fun vr h2 hq => hq.elim) (fun E9 h9 hq => ?_)
    exact w_out hf (Nat.le_of_ble_eq_true rfl) (Nat.le_of_ble_eq_true rfl) hq
  have hr := bw_ok hr
  refine c_X14_277 (As := [.int z0, .int 5, .int y5]) (rest := []) (fun l => t_X14_must  hz e27 l) hrm dX14_item_127 rfl rfl (Nat.le_of_ble_eq_true rfl) (Nat.le_of_ble_eq_true rfl) (Nat.le_of_ble_eq_true rfl) (hz.o14 rfl) rfl (Nat.le_of_ble_eq_true rfl) (fun vr h2 hq => ?_) (fun E9 h9 hq => hq.elim)
  obtain ⟨rfl, hz⟩ := hq
  show wp _ _ 130 [(0, .ref (A 14 0 0)), (1, .int y1), (3, .long y3), (5, .int y5)] [] _ _ _
  refine w_aload_n 0 dX14_item_130 rfl rfl rfl ?_
  obtain ⟨v30, ρ31, e32, hr⟩ := bw_some hr
  rcases v30 with w34e | w34
  · obtain ⟨rfl, rfl⟩ := rete (bw_er hr)
    refine c_X14_226 (As := []) (rest := []) (fun l => e_X14_take  hz e32 l) hrm dX14_item_131 rfl rfl (Nat.le_of_ble_eq_true rfl) (Nat.le_of_ble_eq_true rfl) (Nat.le_of_ble_eq_true rfl) (hz.o14 rfl) rfl (Nat.le_of_ble_eq_true rfl) (fun vr h2 hq => hq.elim) (fun E9 h9 hq => ?_)
    exact w_out hf (Nat.le_of_ble_eq_true rfl) (Nat.le_of_ble_eq_true rfl) hq
  have hr := bw_ok hr
  refine c_X14_226 (As := []) (rest := []) (fun l => t_X14_take  hz e32 l) hrm dX14_item_131 rfl rfl (Nat.le_of_ble_eq_true rfl) (Nat.le_of_ble_eq_true rfl) (Nat.le_of_ble_eq_true rfl) (hz.o14 rfl) rfl (Nat.le_of_ble_eq_true rfl) (fun vr h2 hq => ?_) (fun E9 h9 hq => hq.elim)
  obtain ⟨rfl, hz⟩ := hq
  show wp _ _ 134 [(0, .ref (A 14 0 0)), (1, .int y1), (3, .long y3), (5, .int y5)] [] _ _ _
  refine w_aload_n 0 dX14_item_134 rfl rfl rfl ?_
  refine w_iconst 0 dX14_item_135 rfl rfl ?_
  refine p_X14_313 dX14_item_136 rfl (hz.o14 rfl) ?_
  obtain ⟨ρ35, e36, hr⟩ := lt_e hr
  have hz := (hz.s911 (v := 0) rfl).tr e36
  refine w_aload_n 0 dX14_item_139 rfl rfl rfl ?_
  refine g_X14_212 dX14_item_140 rfl (hz.o14 rfl) (hz.i906 rfl) ?_
  refine w_if_eq 156 dX14_item_143 rfl rfl (fun q143 => ?_) (fun q143 => ?_)
  · have hr := bt q143 hr
    refine w_iconst 0 dX14_item_156 rfl rfl ?_
    refine w_lv [(0, .ref (A 14 0 0)), (1, .int y1), (3, .long y3), (5, .int y5)] [0, 1, 2, 3] rfl ?_
    exact x_X14_item_157 hf hrm   y1 y3 y5 0 _ _ hz  hr
  · have hr := bf q143 hr
    refine w_aload_n 0 dX14_item_146 rfl rfl rfl ?_
    obtain ⟨g100, hr⟩ := gd hr
    have hv99 := hz.ww909 (p := 0) (s := 0) rfl g100
    refine g_X14_232 dX14_item_147 rfl (hz.o14 rfl) (hz.rr909 rfl g100) ?_
    refine g_X14_298 dX14_item_150 rfl (hz.o12 hv99) (hz.i768 hv99) ?_
    refine w_goto 157 dX14_item_153 rfl ?_
    refine w_lv [(0, .ref (A 14 0 0)), (1, .int y1), (3, .long y3), (5, .int y5)] [0, 1, 2, 3] rfl ?_
    exact x_X14_item_157 hf hrm   y1 y3 y5 (zI ρ35 768 ((zR ρ35 909 0 0 0).1) 0 0) _ _ hz  hr
set_option maxRecDepth 20000 in
set_option maxHeartbeats 4000000 in
theorem x_X14_item_68 {A : Nat → Nat → Nat → Nat} {σ ρ' : Zs} {v : Int32 × Int32} {x : Cxt}   (hf : m_fin 3 22 QF (XW A v σ ρ') x) (hrm : m_rm 100 3 22 x)  : ∀ (y1 : Int32) (y2 : Int32) (z0 : Int32) (ρ : Zs) (h : Hp), Rp A h σ ρ → fX14_item_68   y1 y2 z0 ρ = some (.error v, ρ') → wp x mX14_item 68 [(0, .ref (A 14 0 0)), (1, .int y1), (2, .int y2)] [.int z0, .ref (A 14 0 0)] h 1 7 := by
  intro y1 y2 z0 ρ h hz hr
  rw [fX14_item_68.eq_1] at hr
  refine w_iconst 4 dX14_item_68 rfl rfl ?_
  refine w_iload_n 2 dX14_item_69 rfl rfl rfl ?_
  obtain ⟨v10, ρ11, e12, hr⟩ := bw_some hr
  rcases v10 with w14e | w14
  · obtain ⟨rfl, rfl⟩ := rete (bw_er hr)
    refine c_X14_277 (As := [.int z0, .int 4, .int y2]) (rest := []) (fun l => e_X14_must  hz e12 l) hrm dX14_item_70 rfl rfl (Nat.le_of_ble_eq_true rfl) (Nat.le_of_ble_eq_true rfl) (Nat.le_of_ble_eq_true rfl) (hz.o14 rfl) rfl (Nat.le_of_ble_eq_true rfl) (fun vr h2 hq => hq.elim) (fun E9 h9 hq => ?_)
    exact w_out hf (Nat.le_of_ble_eq_true rfl) (Nat.le_of_ble_eq_true rfl) hq
  have hr := bw_ok hr
  refine c_X14_277 (As := [.int z0, .int 4, .int y2]) (rest := []) (fun l => t_X14_must  hz e12 l) hrm dX14_item_70 rfl rfl (Nat.le_of_ble_eq_true rfl) (Nat.le_of_ble_eq_true rfl) (Nat.le_of_ble_eq_true rfl) (hz.o14 rfl) rfl (Nat.le_of_ble_eq_true rfl) (fun vr h2 hq => ?_) (fun E9 h9 hq => hq.elim)
  obtain ⟨rfl, hz⟩ := hq
  show wp _ _ 73 [(0, .ref (A 14 0 0)), (1, .int y1), (2, .int y2)] [] _ _ _
  refine w_aload_n 0 dX14_item_73 rfl rfl rfl ?_
  refine w_sipush 200 dX14_item_74 rfl rfl ?_
  obtain ⟨v15, ρ16, e17, hr⟩ := bq_some hr
  refine c_X14_223 (As := [.int 200]) (rest := []) (fun l => s_X14_is  hz e17 l) hrm dX14_item_77 rfl rfl (Nat.le_of_ble_eq_true rfl) (Nat.le_of_ble_eq_true rfl) (Nat.le_of_ble_eq_true rfl) (hz.o14 rfl) rfl (Nat.le_of_ble_eq_true rfl) (fun vr h2 hq => ?_) (fun E9 h9 hq => hq.elim)
  obtain ⟨rfl, hz⟩ := hq
  show wp _ _ 80 [(0, .ref (A 14 0 0)), (1, .int y1), (2, .int y2)] [.int v15] _ _ _
  refine w_if_ne 88 dX14_item_80 rfl rfl (fun q80 => ?_) (fun q80 => ?_)
  · have hr := bf q80 hr
    refine w_aload_n 0 dX14_item_88 rfl rfl rfl ?_
    refine g_X14_30 dX14_item_89 rfl (hz.o14 rfl) (hz.r904 rfl) ?_
    refine w_aload_n 0 dX14_item_92 rfl rfl rfl ?_
    refine g_X14_204 dX14_item_93 rfl (hz.o14 rfl) (hz.i905 rfl) ?_
    obtain ⟨g19, hr⟩ := gd hr
    refine w_lald dX14_item_96 rfl (hz.k904 rfl) (gin (hz.n904 rfl) g19) (hz.x904 rfl) ?_
    refine w_lstore_n [(3, .long (zJ ρ16 1928 0 0 (Int32.toNatClampNeg (zI ρ16 905 0 0 0)))), (0, .ref (A 14 0 0)), (1, .int y1), (2, .int y2)] dX14_item_97 rfl rfl (by decide) rfl ?_
    refine w_aload_n 1 dX14_item_98 rfl rfl rfl ?_
    refine g_X14_27 dX14_item_99 rfl (hz.o14 rfl) (hz.r903 rfl) ?_
    refine w_aload_n 1 dX14_item_102 rfl rfl rfl ?_
    refine g_X14_204 dX14_item_103 rfl (hz.o14 rfl) (hz.i905 rfl) ?_
    obtain ⟨g20, hr⟩ := gd hr
    refine w_iald dX14_item_106 rfl (hz.k903 rfl) (gin (hz.n903 rfl) g20) (hz.x903 rfl) ?_
    refine w_istore [(5, .int (zI ρ16 1927 0 0 (Int32.toNatClampNeg (zI ρ16 905 0 0 0)))), (3, .long (zJ ρ16 1928 0 0 (Int32.toNatClampNeg (zI ρ16 905 0 0 0)))), (0, .ref (A 14 0 0)), (1, .int y1), (2, .int y2)] dX14_item_107 rfl (by decide) rfl ?_
    refine w_aload_n 2 dX14_item_109 rfl rfl rfl ?_
    refine w_aload_n 2 dX14_item_110 rfl rfl rfl ?_
    refine w_lload_n 1 dX14_item_111 rfl rfl rfl ?_
    obtain ⟨v21, ρ22, e23, hr⟩ := bq_some hr
    refine c_X14_301 (As := [.long (zJ ρ16 1928 0 0 (Int32.toNatClampNeg (zI ρ16 905 0 0 0)))]) (rest := [.ref (A 14 0 0)]) (fun l => s_X14_streamOf  hz e23 l) hrm dX14_item_112 rfl rfl (Nat.le_of_ble_eq_true rfl) (Nat.le_of_ble_eq_true rfl) (Nat.le_of_ble_eq_true rfl) (hz.o14 rfl) rfl (Nat.le_of_ble_eq_true rfl) (fun vr h2 hq => ?_) (fun E9 h9 hq => hq.elim)
    obtain ⟨rfl, hz⟩ := hq
    show wp _ _ 115 [(5, .int (zI ρ16 1927 0 0 (Int32.toNatClampNeg (zI ρ16 905 0 0 0)))), (3, .long (zJ ρ16 1928 0 0 (Int32.toNatClampNeg (zI ρ16 905 0 0 0)))), (0, .ref (A 14 0 0)), (1, .int y1), (2, .int y2)] [.int v21, .ref (A 14 0 0)] _ _ _
    refine w_iconst (-1) dX14_item_115 rfl rfl ?_
    refine w_icmp_ne 123 dX14_item_116 rfl rfl (fun q116 => ?_) (fun q116 => ?_)
    · have hr := bf q116 hr
      refine w_iconst 0 dX14_item_123 rfl rfl ?_
      refine w_lv [(0, .ref (A 14 0 0)), (1, .int y1), (3, .long (zJ ρ16 1928 0 0 (Int32.toNatClampNeg (zI ρ16 905 0 0 0)))), (5, .int (zI ρ16 1927 0 0 (Int32.toNatClampNeg (zI ρ16 905 0 0 0))))] [2, 3, 1, 0] rfl ?_
      exact x_X14_item_124 hf hrm   y1 (zJ ρ16 1928 0 0 (Int32.toNatClampNeg (zI ρ16 905 0 0 0))) (zI ρ16 1927 0 0 (Int32.toNatClampNeg (zI ρ16 905 0 0 0))) 0 _ _ hz  hr
    · have hr := bt q116 hr
      refine w_iconst 1 dX14_item_119 rfl rfl ?_
      refine w_goto 124 dX14_item_120 rfl ?_
      refine w_lv [(0, .ref (A 14 0 0)), (1, .int y1), (3, .long (zJ ρ16 1928 0 0 (Int32.toNatClampNeg (zI ρ16 905 0 0 0)))), (5, .int (zI ρ16 1927 0 0 (Int32.toNatClampNeg (zI ρ16 905 0 0 0))))] [2, 3, 1, 0] rfl ?_
      exact x_X14_item_124 hf hrm   y1 (zJ ρ16 1928 0 0 (Int32.toNatClampNeg (zI ρ16 905 0 0 0))) (zI ρ16 1927 0 0 (Int32.toNatClampNeg (zI ρ16 905 0 0 0))) 1 _ _ hz  hr
  · have hr := bt q80 hr
    refine w_aload_n 0 dX14_item_83 rfl rfl rfl ?_
    obtain ⟨w101, ρ102, e103, hr⟩ := bq_some hr
    refine c_X14_219 (As := []) (rest := []) (fun l => s_X14_wrong hz e103 l) hrm dX14_item_84 rfl rfl (Nat.le_of_ble_eq_true rfl) (Nat.le_of_ble_eq_true rfl) (Nat.le_of_ble_eq_true rfl) (hz.o14 rfl) rfl (Nat.le_of_ble_eq_true rfl) (fun vr h2 hq => ?_) (fun E9 h9 hq => hq.elim)
    obtain ⟨q, rfl, hq⟩ := hq
    obtain ⟨rfl, rfl⟩ := rete hr
    show wp _ _ 87 [(0, .ref (A 14 0 0)), (1, .int y1), (2, .int y2)] [.ref q] _ _ _
    refine w_athrow dX14_item_87 (q := q) hq.1 ?_
    exact w_out hf (Nat.le_of_ble_eq_true rfl) (Nat.le_of_ble_eq_true rfl) hq.gh
set_option maxRecDepth 20000 in
set_option maxHeartbeats 4000000 in
theorem e_X14_item {A : Nat → Nat → Nat → Nat} {h : Hp} {σ ρ ρ' : Zs} {v : Int32 × Int32}   (hz : Rp A h σ ρ) (hr : fX14_item  ρ = some (.error v, ρ')) : ∀ l : Launch, Sp l mX14_item 100 3 22 [.ref (A 14 0 0)] h QF (XW A v σ ρ') := by
  intro l
  refine Sp.of rfl rfl (lv := [(0, .ref (A 14 0 0))]) (Nat.le_of_ble_eq_true rfl) rfl (fun x hf hrm => ?_)
  rw [fX14_item.eq_1] at hr
  refine w_aload_n 0 dX14_item_0 rfl rfl rfl ?_
  refine g_X14_24 dX14_item_1 rfl (hz.o14 rfl) (hz.r902 rfl) ?_
  refine w_aload_n 0 dX14_item_4 rfl rfl rfl ?_
  refine g_X14_204 dX14_item_5 rfl (hz.o14 rfl) (hz.i905 rfl) ?_
  obtain ⟨g1, hr⟩ := gd hr
  refine w_iald dX14_item_8 rfl (hz.k902 rfl) (gin (hz.n902 rfl) g1) (hz.x902 rfl) ?_
  refine w_istore_n [(1, .int (zI ρ 1926 0 0 (Int32.toNatClampNeg (zI ρ 905 0 0 0)))), (0, .ref (A 14 0 0))] dX14_item_9 rfl rfl (by decide) rfl ?_
  refine w_aload_n 1 dX14_item_10 rfl rfl rfl ?_
  refine g_X14_27 dX14_item_11 rfl (hz.o14 rfl) (hz.r903 rfl) ?_
  refine w_aload_n 1 dX14_item_14 rfl rfl rfl ?_
  refine g_X14_204 dX14_item_15 rfl (hz.o14 rfl) (hz.i905 rfl) ?_
  obtain ⟨g2, hr⟩ := gd hr
  refine w_iald dX14_item_18 rfl (hz.k903 rfl) (gin (hz.n903 rfl) g2) (hz.x903 rfl) ?_
  refine w_istore_n [(2, .int (zI ρ 1927 0 0 (Int32.toNatClampNeg (zI ρ 905 0 0 0)))), (1, .int (zI ρ 1926 0 0 (Int32.toNatClampNeg (zI ρ 905 0 0 0)))), (0, .ref (A 14 0 0))] dX14_item_19 rfl rfl (by decide) rfl ?_
  refine w_iload_n 1 dX14_item_20 rfl rfl rfl ?_
  refine w_bipush 17 dX14_item_21 rfl rfl ?_
  refine w_icmp_ne 32 dX14_item_23 rfl rfl (fun q23 => ?_) (fun q23 => ?_)
  · have hr := bf q23 hr
    refine w_iload_n 1 dX14_item_32 rfl rfl rfl ?_
    refine w_if_eq 46 dX14_item_33 rfl rfl (fun q33 => ?_) (fun q33 => ?_)
    · have hr := bt q33 hr
      refine w_aload_n 2 dX14_item_46 rfl rfl rfl ?_
      obtain ⟨v3, ρ4, e5, hr⟩ := bw_some hr
      rcases v3 with w7e | w7
      · obtain ⟨rfl, rfl⟩ := rete (bw_er hr)
        refine c_X14_226 (As := []) (rest := []) (fun l => e_X14_take  hz e5 l) hrm dX14_item_47 rfl rfl (Nat.le_of_ble_eq_true rfl) (Nat.le_of_ble_eq_true rfl) (Nat.le_of_ble_eq_true rfl) (hz.o14 rfl) rfl (Nat.le_of_ble_eq_true rfl) (fun vr h2 hq => hq.elim) (fun E9 h9 hq => ?_)
        exact w_out hf (Nat.le_of_ble_eq_true rfl) (Nat.le_of_ble_eq_true rfl) hq
      have hr := bw_ok hr
      refine c_X14_226 (As := []) (rest := []) (fun l => t_X14_take  hz e5 l) hrm dX14_item_47 rfl rfl (Nat.le_of_ble_eq_true rfl) (Nat.le_of_ble_eq_true rfl) (Nat.le_of_ble_eq_true rfl) (hz.o14 rfl) rfl (Nat.le_of_ble_eq_true rfl) (fun vr h2 hq => ?_) (fun E9 h9 hq => hq.elim)
      obtain ⟨rfl, hz⟩ := hq
      show wp _ _ 50 [(2, .int (zI ρ 1927 0 0 (Int32.toNatClampNeg (zI ρ 905 0 0 0)))), (1, .int (zI ρ 1926 0 0 (Int32.toNatClampNeg (zI ρ 905 0 0 0)))), (0, .ref (A 14 0 0))] [] _ _ _
      refine w_aload_n 2 dX14_item_50 rfl rfl rfl ?_
      refine w_aload_n 2 dX14_item_51 rfl rfl rfl ?_
      obtain ⟨g9, hr⟩ := gd hr
      have hv8 := hz.ww909 (p := 0) (s := 0) rfl g9
      refine g_X14_232 dX14_item_52 rfl (hz.o14 rfl) (hz.rr909 rfl g9) ?_
      refine g_X14_298 dX14_item_55 rfl (hz.o12 hv8) (hz.i768 hv8) ?_
      refine w_bipush 12 dX14_item_58 rfl rfl ?_
      refine w_icmp_ge 67 dX14_item_60 rfl rfl (fun q60 => ?_) (fun q60 => ?_)
      · have hr := bt q60 hr
        refine w_iconst 0 dX14_item_67 rfl rfl ?_
        refine w_lv [(0, .ref (A 14 0 0)), (1, .int (zI ρ 1926 0 0 (Int32.toNatClampNeg (zI ρ 905 0 0 0)))), (2, .int (zI ρ 1927 0 0 (Int32.toNatClampNeg (zI ρ 905 0 0 0))))] [2, 1, 0] rfl ?_
        refine w_widen (kc' := 1) (ks' := 7) (Nat.le_of_ble_eq_true rfl) (Nat.le_of_ble_eq_true rfl) ?_
        exact x_X14_item_68 hf hrm   (zI ρ 1926 0 0 (Int32.toNatClampNeg (zI ρ 905 0 0 0))) (zI ρ 1927 0 0 (Int32.toNatClampNeg (zI ρ 905 0 0 0))) 0 _ _ hz  hr
      · have hr := bf q60 hr
        refine w_iconst 1 dX14_item_63 rfl rfl ?_
        refine w_goto 68 dX14_item_64 rfl ?_
        refine w_lv [(0, .ref (A 14 0 0)), (1, .int (zI ρ 1926 0 0 (Int32.toNatClampNeg (zI ρ 905 0 0 0)))), (2, .int (zI ρ 1927 0 0 (Int32.toNatClampNeg (zI ρ 905 0 0 0))))] [2, 1, 0] rfl ?_
        refine w_widen (kc' := 1) (ks' := 7) (Nat.le_of_ble_eq_true rfl) (Nat.le_of_ble_eq_true rfl) ?_
        exact x_X14_item_68 hf hrm   (zI ρ 1926 0 0 (Int32.toNatClampNeg (zI ρ 905 0 0 0))) (zI ρ 1927 0 0 (Int32.toNatClampNeg (zI ρ 905 0 0 0))) 1 _ _ hz  hr
    · have hr := bf q33 hr
      refine w_iload_n 1 dX14_item_36 rfl rfl rfl ?_
      refine w_iconst 2 dX14_item_37 rfl rfl ?_
      refine w_icmp_eq 46 dX14_item_38 rfl rfl (fun q38 => ?_) (fun q38 => ?_)
      · have hr := bt q38 hr
        refine w_aload_n 2 dX14_item_46 rfl rfl rfl ?_
        obtain ⟨v104, ρ105, e106, hr⟩ := bw_some hr
        rcases v104 with w108e | w108
        · obtain ⟨rfl, rfl⟩ := rete (bw_er hr)
          refine c_X14_226 (As := []) (rest := []) (fun l => e_X14_take  hz e106 l) hrm dX14_item_47 rfl rfl (Nat.le_of_ble_eq_true rfl) (Nat.le_of_ble_eq_true rfl) (Nat.le_of_ble_eq_true rfl) (hz.o14 rfl) rfl (Nat.le_of_ble_eq_true rfl) (fun vr h2 hq => hq.elim) (fun E9 h9 hq => ?_)
          exact w_out hf (Nat.le_of_ble_eq_true rfl) (Nat.le_of_ble_eq_true rfl) hq
        have hr := bw_ok hr
        refine c_X14_226 (As := []) (rest := []) (fun l => t_X14_take  hz e106 l) hrm dX14_item_47 rfl rfl (Nat.le_of_ble_eq_true rfl) (Nat.le_of_ble_eq_true rfl) (Nat.le_of_ble_eq_true rfl) (hz.o14 rfl) rfl (Nat.le_of_ble_eq_true rfl) (fun vr h2 hq => ?_) (fun E9 h9 hq => hq.elim)
        obtain ⟨rfl, hz⟩ := hq
        show wp _ _ 50 [(2, .int (zI ρ 1927 0 0 (Int32.toNatClampNeg (zI ρ 905 0 0 0)))), (1, .int (zI ρ 1926 0 0 (Int32.toNatClampNeg (zI ρ 905 0 0 0)))), (0, .ref (A 14 0 0))] [] _ _ _
        refine w_aload_n 2 dX14_item_50 rfl rfl rfl ?_
        refine w_aload_n 2 dX14_item_51 rfl rfl rfl ?_
        obtain ⟨g110, hr⟩ := gd hr
        have hv109 := hz.ww909 (p := 0) (s := 0) rfl g110
        refine g_X14_232 dX14_item_52 rfl (hz.o14 rfl) (hz.rr909 rfl g110) ?_
        refine g_X14_298 dX14_item_55 rfl (hz.o12 hv109) (hz.i768 hv109) ?_
        refine w_bipush 12 dX14_item_58 rfl rfl ?_
        refine w_icmp_ge 67 dX14_item_60 rfl rfl (fun q60 => ?_) (fun q60 => ?_)
        · have hr := bt q60 hr
          refine w_iconst 0 dX14_item_67 rfl rfl ?_
          refine w_lv [(0, .ref (A 14 0 0)), (1, .int (zI ρ 1926 0 0 (Int32.toNatClampNeg (zI ρ 905 0 0 0)))), (2, .int (zI ρ 1927 0 0 (Int32.toNatClampNeg (zI ρ 905 0 0 0))))] [2, 1, 0] rfl ?_
          refine w_widen (kc' := 1) (ks' := 7) (Nat.le_of_ble_eq_true rfl) (Nat.le_of_ble_eq_true rfl) ?_
          exact x_X14_item_68 hf hrm   (zI ρ 1926 0 0 (Int32.toNatClampNeg (zI ρ 905 0 0 0))) (zI ρ 1927 0 0 (Int32.toNatClampNeg (zI ρ 905 0 0 0))) 0 _ _ hz  hr
        · have hr := bf q60 hr
          refine w_iconst 1 dX14_item_63 rfl rfl ?_
          refine w_goto 68 dX14_item_64 rfl ?_
          refine w_lv [(0, .ref (A 14 0 0)), (1, .int (zI ρ 1926 0 0 (Int32.toNatClampNeg (zI ρ 905 0 0 0)))), (2, .int (zI ρ 1927 0 0 (Int32.toNatClampNeg (zI ρ 905 0 0 0))))] [2, 1, 0] rfl ?_
          refine w_widen (kc' := 1) (ks' := 7) (Nat.le_of_ble_eq_true rfl) (Nat.le_of_ble_eq_true rfl) ?_
          exact x_X14_item_68 hf hrm   (zI ρ 1926 0 0 (Int32.toNatClampNeg (zI ρ 905 0 0 0))) (zI ρ 1927 0 0 (Int32.toNatClampNeg (zI ρ 905 0 0 0))) 1 _ _ hz  hr
      · have hr := bf q38 hr
        refine w_aload_n 2 dX14_item_41 rfl rfl rfl ?_
        obtain ⟨w111, ρ112, e113, hr⟩ := bq_some hr
        refine c_X14_219 (As := []) (rest := []) (fun l => s_X14_wrong hz e113 l) hrm dX14_item_42 rfl rfl (Nat.le_of_ble_eq_true rfl) (Nat.le_of_ble_eq_true rfl) (Nat.le_of_ble_eq_true rfl) (hz.o14 rfl) rfl (Nat.le_of_ble_eq_true rfl) (fun vr h2 hq => ?_) (fun E9 h9 hq => hq.elim)
        obtain ⟨q, rfl, hq⟩ := hq
        obtain ⟨rfl, rfl⟩ := rete hr
        show wp _ _ 45 [(2, .int (zI ρ 1927 0 0 (Int32.toNatClampNeg (zI ρ 905 0 0 0)))), (1, .int (zI ρ 1926 0 0 (Int32.toNatClampNeg (zI ρ 905 0 0 0)))), (0, .ref (A 14 0 0))] [.ref q] _ _ _
        refine w_athrow dX14_item_45 (q := q) hq.1 ?_
        exact w_out hf (Nat.le_of_ble_eq_true rfl) (Nat.le_of_ble_eq_true rfl) hq.gh
  · have hr := bt q23 hr
    refine w_aload_n 2 dX14_item_26 rfl rfl rfl ?_
    refine w_iload_n 0 dX14_item_27 rfl rfl rfl ?_
    obtain ⟨v114, ρ115, e116, hr⟩ := bw_some hr
    rcases v114 with w118e | w118
    · obtain ⟨rfl, rfl⟩ := rete (bw_er hr)
      refine c_X14_320 (As := [.int (zI ρ 1927 0 0 (Int32.toNatClampNeg (zI ρ 905 0 0 0)))]) (rest := []) (fun l => e_X14_check  hz e116 l) hrm dX14_item_28 rfl rfl (Nat.le_of_ble_eq_true rfl) (Nat.le_of_ble_eq_true rfl) (Nat.le_of_ble_eq_true rfl) (hz.o14 rfl) rfl (Nat.le_of_ble_eq_true rfl) (fun vr h2 hq => hq.elim) (fun E9 h9 hq => ?_)
      exact w_out hf (Nat.le_of_ble_eq_true rfl) (Nat.le_of_ble_eq_true rfl) hq
    have hr := bw_ok hr
    refine c_X14_320 (As := [.int (zI ρ 1927 0 0 (Int32.toNatClampNeg (zI ρ 905 0 0 0)))]) (rest := []) (fun l => t_X14_check  hz e116 l) hrm dX14_item_28 rfl rfl (Nat.le_of_ble_eq_true rfl) (Nat.le_of_ble_eq_true rfl) (Nat.le_of_ble_eq_true rfl) (hz.o14 rfl) rfl (Nat.le_of_ble_eq_true rfl) (fun vr h2 hq => ?_) (fun E9 h9 hq => hq.elim)
    obtain ⟨rfl, hz⟩ := hq
    show wp _ _ 31 [(2, .int (zI ρ 1927 0 0 (Int32.toNatClampNeg (zI ρ 905 0 0 0)))), (1, .int (zI ρ 1926 0 0 (Int32.toNatClampNeg (zI ρ 905 0 0 0)))), (0, .ref (A 14 0 0))] [] _ _ _
    exact noek hr

