/-! LIFTED: 46.refs -/
noncomputable def fX14_doAgain_8   : Nat → Int32 → Int32 → Zs → Option (Int32 × Zs)
  | 0, _, _, _ => none
  | n + 1, y1, y2, ρ =>
    if (zI ρ 940 0 0 0) ≤ y2 then (some (y1, ρ)) else (bq (fX14_again y2 ρ) fun v5 ρ6 => if v5 = 0 then (fX14_doAgain_8   n (y1 + 0) (y2 + 1) ρ6) else (fX14_doAgain_8   n (y1 + 1) (y2 + 1) ρ6))
noncomputable def fX14_doAgain  (ρ : Zs) : Option (Int32 × Zs) :=
  bq (fX14_empty  ρ) fun v1 ρ2 => fX14_doAgain_8   FU 0 0 ρ2

theorem again_lt {x : Int32} {j : Nat} {ρ : Zs} {r : Int32 × Zs} (hj : j ≤ 200) (e : x = nI j) (h : fX14_again x ρ = some r) : j < 200 := by
  rw [fX14_again.eq_1] at h
  have := gi_lt (gd h).1
  rw [e, i_cl (by omega)] at this
  exact this
set_option maxRecDepth 20000 in
set_option maxHeartbeats 4000000 in
theorem w_X14_doAgain_8 {A : Nat → Nat → Nat → Nat} {σ ρ' : Zs} {v : Int32} {x : Cxt}   (hf : m_fin 200 1400 (QI A v σ ρ') X0 x) (hrm : m_rm 19 200 1400 x)  : ∀ (n : Nat) (y1 : Int32) (y2 : Int32) (ρ : Zs) (h : Hp) (j kc ks : Nat), y2 = nI j → j ≤ 200 → kc + (200 - j) ≤ 200 → ks + 7 * (200 - j) ≤ 1400 → Rp A h σ ρ → fX14_doAgain_8   n y1 y2 ρ = some (v, ρ') → wp x mX14_doAgain 8 [(0, .ref (A 14 0 0)), (1, .int y1), (2, .int y2)] [] h kc ks
  | 0, _, _, ρ, h, _, _, _ => fun _ _ _ _ hz hr => by
    rw [fX14_doAgain_8.eq_1] at hr
    exact nono hr
  | n + 1, y1, y2, ρ, h, j, kc, ks => fun ej hj hkc hks hz hr => by
    rw [fX14_doAgain_8.eq_2] at hr
    refine w_iload_n 2 dX14_doAgain_8 rfl rfl rfl ?_
    refine w_aload_n 0 dX14_doAgain_9 rfl rfl rfl ?_
    refine g_X14_437 dX14_doAgain_10 rfl (hz.o14 rfl) (hz.i940 rfl) ?_
    refine w_icmp_ge 38 dX14_doAgain_13 rfl rfl (fun q13 => ?_) (fun q13 => ?_)
    · have hr := bt q13 hr
      refine w_iload_n 1 dX14_doAgain_38 rfl rfl rfl ?_
      refine w_iret hf dX14_doAgain_39 rfl (by omega) (by omega) ?_
      obtain ⟨rfl, rfl⟩ := ret_inj hr
      exact ⟨rfl, hz⟩
    · have hr := bf q13 hr
      refine w_iload_n 1 dX14_doAgain_16 rfl rfl rfl ?_
      refine w_aload_n 0 dX14_doAgain_17 rfl rfl rfl ?_
      refine w_iload_n 2 dX14_doAgain_18 rfl rfl rfl ?_
      obtain ⟨v5, ρ6, e7, hr⟩ := bq_some hr
      have hj2 : j < 200 := again_lt hj ej e7
      refine c_X14_583 (As := [.int y2]) (rest := [.int y1]) (fun l => s_X14_again  hz e7 l) hrm dX14_doAgain_19 rfl rfl (Nat.le_of_ble_eq_true rfl) (by omega) (by omega) (hz.o14 rfl) rfl (Nat.le_of_ble_eq_true rfl) (fun vr h2 hq => ?_) (fun E9 h9 hq => hq.elim)
      obtain ⟨rfl, hz⟩ := hq
      show wp _ _ 22 [(0, .ref (A 14 0 0)), (1, .int y1), (2, .int y2)] [.int v5, .int y1] _ _ _
      refine w_if_eq 29 dX14_doAgain_22 rfl rfl (fun q22 => ?_) (fun q22 => ?_)
      · have hr := bt q22 hr
        refine w_iconst 0 dX14_doAgain_29 rfl rfl ?_
        refine w_iadd dX14_doAgain_30 rfl ?_
        refine w_istore_n [(1, .int (y1 + 0)), (0, .ref (A 14 0 0)), (2, .int y2)] dX14_doAgain_31 rfl rfl (by decide) rfl ?_
        refine w_iinc 2 (y2 + 1) [(2, .int (y2 + 1)), (1, .int (y1 + 0)), (0, .ref (A 14 0 0))] dX14_doAgain_32 rfl rfl rfl (by decide) rfl ?_
        refine w_goto 8 dX14_doAgain_35 rfl ?_
        refine w_lv [(0, .ref (A 14 0 0)), (1, .int (y1 + 0)), (2, .int (y2 + 1))] [2, 1, 0] rfl ?_
        exact w_X14_doAgain_8 hf hrm   n (y1 + 0) (y2 + 1) _ _ (j + 1) _ _ (by rw [ej]; exact nI_1 j) (by omega) (by omega) (by omega) hz  hr
      · have hr := bf q22 hr
        refine w_iconst 1 dX14_doAgain_25 rfl rfl ?_
        refine w_goto 30 dX14_doAgain_26 rfl ?_
        refine w_iadd dX14_doAgain_30 rfl ?_
        refine w_istore_n [(1, .int (y1 + 1)), (0, .ref (A 14 0 0)), (2, .int y2)] dX14_doAgain_31 rfl rfl (by decide) rfl ?_
        refine w_iinc 2 (y2 + 1) [(2, .int (y2 + 1)), (1, .int (y1 + 1)), (0, .ref (A 14 0 0))] dX14_doAgain_32 rfl rfl rfl (by decide) rfl ?_
        refine w_goto 8 dX14_doAgain_35 rfl ?_
        refine w_lv [(0, .ref (A 14 0 0)), (1, .int (y1 + 1)), (2, .int (y2 + 1))] [2, 1, 0] rfl ?_
        exact w_X14_doAgain_8 hf hrm   n (y1 + 1) (y2 + 1) _ _ (j + 1) _ _ (by rw [ej]; exact nI_1 j) (by omega) (by omega) (by omega) hz  hr
set_option maxRecDepth 20000 in
set_option maxHeartbeats 4000000 in
theorem s_X14_doAgain {A : Nat → Nat → Nat → Nat} {h : Hp} {σ ρ ρ' : Zs} {v : Int32}   (hz : Rp A h σ ρ) (hr : fX14_doAgain  ρ = some (v, ρ')) : ∀ l : Launch, Sp l mX14_doAgain 19 200 1400 [.ref (A 14 0 0)] h (QI A v σ ρ') X0 := by
  intro l
  refine Sp.of rfl rfl (lv := [(0, .ref (A 14 0 0))]) (Nat.le_of_ble_eq_true rfl) rfl (fun x hf hrm => ?_)
  rw [fX14_doAgain.eq_1] at hr
  refine w_aload_n 0 dX14_doAgain_0 rfl rfl rfl ?_
  obtain ⟨v1, ρ2, e3, hr⟩ := bq_some hr
  refine c_X14_426 (As := []) (rest := []) (fun l => s_X14_empty  hz e3 l) hrm dX14_doAgain_1 rfl rfl (Nat.le_of_ble_eq_true rfl) (Nat.le_of_ble_eq_true rfl) (Nat.le_of_ble_eq_true rfl) (hz.o14 rfl) rfl (Nat.le_of_ble_eq_true rfl) (fun vr h2 hq => ?_) (fun E9 h9 hq => hq.elim)
  obtain ⟨rfl, hz⟩ := hq
  show wp _ _ 4 [(0, .ref (A 14 0 0))] [] _ _ _
  refine w_iconst 0 dX14_doAgain_4 rfl rfl ?_
  refine w_istore_n [(1, .int 0), (0, .ref (A 14 0 0))] dX14_doAgain_5 rfl rfl (by decide) rfl ?_
  refine w_iconst 0 dX14_doAgain_6 rfl rfl ?_
  refine w_istore_n [(2, .int 0), (1, .int 0), (0, .ref (A 14 0 0))] dX14_doAgain_7 rfl rfl (by decide) rfl ?_
  refine w_lv [(0, .ref (A 14 0 0)), (1, .int 0), (2, .int 0)] [2, 1, 0] rfl ?_
  exact w_X14_doAgain_8 hf hrm   FU 0 0 _ _ 0 _ _ rfl (by omega) (by omega) (by omega) hz  hr
noncomputable def fX14_back (x1 : Int32) (ρ : Zs) : Option (Int32 × Zs) :=
  lt (sI ρ 896 0 0 0 0) fun ρ1 => bq (fX14_isIn ((x1 : Int32).toInt64) 0 ((((zI ρ1 946 0 0 0) - 1) : Int32).toInt64) ρ1) fun v3 ρ4 => if v3 = 0 then (bq (fX14_fail 1 ρ4) fun v17 ρ18 => some (v17, ρ18)) else (if gi x1 8 then if gi x1 8 then lt (sI ρ4 940 0 0 0 (zI ρ4 1971 0 0 (Int32.toNatClampNeg x1))) fun ρ9 => lt (sI ρ9 946 0 0 0 (x1 + 1)) fun ρ11 => bq (fX14_doAgain  ρ11) fun v13 ρ14 => if 0 ≤ v13 then (some (((zI ρ4 940 0 0 0) - (zI ρ4 1971 0 0 (Int32.toNatClampNeg x1))), ρ14)) else (some (0, ρ14)) else none else none)

noncomputable def fX14_replay  (ρ : Zs) : Option (Int32 × Zs) :=
  lt (sI ρ 896 0 0 0 0) fun ρ1 => if (zI ρ1 768 ((zR ρ1 898 0 0 0).1) 0 0) = 0 then (bq (fX14_fail 1 ρ1) fun v8 ρ9 => some (v8, ρ9)) else (bq (fX14_doAgain  ρ1) fun v4 ρ5 => some (v4, ρ5))

set_option maxRecDepth 20000 in
set_option maxHeartbeats 4000000 in
theorem s_X14_back {A : Nat → Nat → Nat → Nat} {h : Hp} {σ ρ ρ' : Zs} {v : Int32} {x1 : Int32}  (hz : Rp A h σ ρ) (hr : fX14_back x1 ρ = some (v, ρ')) : ∀ l : Launch, Sp l mX14_back 20 200 1400 [.ref (A 14 0 0), .int x1] h (QI A v σ ρ') X0 := by
  intro l
  refine Sp.of rfl rfl (lv := [(0, .ref (A 14 0 0)), (1, .int x1)]) (Nat.le_of_ble_eq_true rfl) rfl (fun x hf hrm => ?_)
  rw [fX14_back.eq_1] at hr
  refine w_aload_n 0 dX14_back_0 rfl rfl rfl ?_
  refine w_iconst 0 dX14_back_1 rfl rfl ?_
  refine p_X14_149 dX14_back_2 rfl (hz.o14 rfl) ?_
  obtain ⟨ρ1, e2, hr⟩ := lt_e hr
  have hz := (hz.s896 (v := 0) rfl).tr e2
  refine w_iload_n 1 dX14_back_5 rfl rfl rfl ?_
  refine w_i2l dX14_back_6 rfl ?_
  refine w_lconst 0 dX14_back_7 rfl rfl ?_
  refine w_aload_n 0 dX14_back_8 rfl rfl rfl ?_
  refine g_X14_423 dX14_back_9 rfl (hz.o14 rfl) (hz.i946 rfl) ?_
  refine w_iconst 1 dX14_back_12 rfl rfl ?_
  refine w_isub dX14_back_13 rfl ?_
  refine w_i2l dX14_back_14 rfl ?_
  obtain ⟨v3, ρ4, e5, hr⟩ := bq_some hr
  refine c_X14_163 (b := 0) (As := [.long ((x1 : Int32).toInt64), .long 0, .long ((((zI ρ1 946 0 0 0) - 1) : Int32).toInt64)]) (rest := []) (fun l => s_X14_isIn  hz e5 l) hrm dX14_back_15 rfl rfl (Nat.le_of_ble_eq_true rfl) (Nat.le_of_ble_eq_true rfl) (Nat.le_of_ble_eq_true rfl) rfl (Nat.le_of_ble_eq_true rfl) (fun vr h2 hq => ?_) (fun E9 h9 hq => hq.elim)
  obtain ⟨rfl, hz⟩ := hq
  show wp _ _ 18 [(0, .ref (A 14 0 0)), (1, .int x1)] [.int v3] _ _ _
  refine w_if_ne 27 dX14_back_18 rfl rfl (fun q18 => ?_) (fun q18 => ?_)
  · have hr := bf q18 hr
    refine w_aload_n 0 dX14_back_27 rfl rfl rfl ?_
    refine g_X14_437 dX14_back_28 rfl (hz.o14 rfl) (hz.i940 rfl) ?_
    refine w_aload_n 0 dX14_back_31 rfl rfl rfl ?_
    refine g_X14_119 dX14_back_32 rfl (hz.o14 rfl) (hz.r947 rfl) ?_
    refine w_iload_n 1 dX14_back_35 rfl rfl rfl ?_
    obtain ⟨g7, hr⟩ := gd hr
    refine w_iald dX14_back_36 rfl (hz.k947 rfl) (gin (hz.n947 rfl) g7) (hz.x947 rfl) ?_
    refine w_isub dX14_back_37 rfl ?_
    refine w_istore_n [(2, .int ((zI ρ4 940 0 0 0) - (zI ρ4 1971 0 0 (Int32.toNatClampNeg x1)))), (0, .ref (A 14 0 0)), (1, .int x1)] dX14_back_38 rfl rfl (by decide) rfl ?_
    refine w_aload_n 1 dX14_back_39 rfl rfl rfl ?_
    refine w_aload_n 1 dX14_back_40 rfl rfl rfl ?_
    refine g_X14_119 dX14_back_41 rfl (hz.o14 rfl) (hz.r947 rfl) ?_
    refine w_iload_n 2 dX14_back_44 rfl rfl rfl ?_
    obtain ⟨g8, hr⟩ := gd hr
    refine w_iald dX14_back_45 rfl (hz.k947 rfl) (gin (hz.n947 rfl) g8) (hz.x947 rfl) ?_
    refine p_X14_437 dX14_back_46 rfl (hz.o14 rfl) ?_
    obtain ⟨ρ9, e10, hr⟩ := lt_e hr
    have hz := (hz.s940 (v := (zI ρ4 1971 0 0 (Int32.toNatClampNeg x1))) rfl).tr e10
    refine w_aload_n 1 dX14_back_49 rfl rfl rfl ?_
    refine w_iload_n 2 dX14_back_50 rfl rfl rfl ?_
    refine w_iconst 1 dX14_back_51 rfl rfl ?_
    refine w_iadd dX14_back_52 rfl ?_
    refine p_X14_423 dX14_back_53 rfl (hz.o14 rfl) ?_
    obtain ⟨ρ11, e12, hr⟩ := lt_e hr
    have hz := (hz.s946 (v := (x1 + 1)) rfl).tr e12
    refine w_aload_n 1 dX14_back_56 rfl rfl rfl ?_
    obtain ⟨v13, ρ14, e15, hr⟩ := bq_some hr
    refine c_X14_586 (As := []) (rest := []) (fun l => s_X14_doAgain  hz e15 l) hrm dX14_back_57 rfl rfl (Nat.le_of_ble_eq_true rfl) (Nat.le_of_ble_eq_true rfl) (Nat.le_of_ble_eq_true rfl) (hz.o14 rfl) rfl (Nat.le_of_ble_eq_true rfl) (fun vr h2 hq => ?_) (fun E9 h9 hq => hq.elim)
    obtain ⟨rfl, hz⟩ := hq
    show wp _ _ 60 [(2, .int ((zI ρ4 940 0 0 0) - (zI ρ4 1971 0 0 (Int32.toNatClampNeg x1)))), (0, .ref (A 14 0 0)), (1, .int x1)] [.int v13] _ _ _
    refine w_istore_n [(3, .int v13), (2, .int ((zI ρ4 940 0 0 0) - (zI ρ4 1971 0 0 (Int32.toNatClampNeg x1)))), (0, .ref (A 14 0 0)), (1, .int x1)] dX14_back_60 rfl rfl (by decide) rfl ?_
    refine w_iload_n 0 dX14_back_61 rfl rfl rfl ?_
    refine w_if_ge 69 dX14_back_62 rfl rfl (fun q62 => ?_) (fun q62 => ?_)
    · have hr := bt q62 hr
      refine w_iload_n 1 dX14_back_69 rfl rfl rfl ?_
      refine w_iret hf dX14_back_70 rfl (Nat.le_of_ble_eq_true rfl) (Nat.le_of_ble_eq_true rfl) ?_
      obtain ⟨rfl, rfl⟩ := ret_inj hr
      exact ⟨rfl, hz⟩
    · have hr := bf q62 hr
      refine w_iconst 0 dX14_back_65 rfl rfl ?_
      refine w_goto 70 dX14_back_66 rfl ?_
      refine w_iret hf dX14_back_70 rfl (Nat.le_of_ble_eq_true rfl) (Nat.le_of_ble_eq_true rfl) ?_
      obtain ⟨rfl, rfl⟩ := ret_inj hr
      exact ⟨rfl, hz⟩
  · have hr := bt q18 hr
    refine w_aload_n 0 dX14_back_21 rfl rfl rfl ?_
    refine w_iconst 1 dX14_back_22 rfl rfl ?_
    obtain ⟨v17, ρ18, e19, hr⟩ := bq_some hr
    refine c_X14_155 (As := [.int 1]) (rest := []) (fun l => s_X14_fail  hz e19 l) hrm dX14_back_23 rfl rfl (Nat.le_of_ble_eq_true rfl) (Nat.le_of_ble_eq_true rfl) (Nat.le_of_ble_eq_true rfl) (hz.o14 rfl) rfl (Nat.le_of_ble_eq_true rfl) (fun vr h2 hq => ?_) (fun E9 h9 hq => hq.elim)
    obtain ⟨rfl, hz⟩ := hq
    show wp _ _ 26 [(0, .ref (A 14 0 0)), (1, .int x1)] [.int v17] _ _ _
    refine w_iret hf dX14_back_26 rfl (Nat.le_of_ble_eq_true rfl) (Nat.le_of_ble_eq_true rfl) ?_
    obtain ⟨rfl, rfl⟩ := ret_inj hr
    exact ⟨rfl, hz⟩

set_option maxRecDepth 20000 in
set_option maxHeartbeats 4000000 in
theorem s_X14_replay {A : Nat → Nat → Nat → Nat} {h : Hp} {σ ρ ρ' : Zs} {v : Int32}   (hz : Rp A h σ ρ) (hr : fX14_replay  ρ = some (v, ρ')) : ∀ l : Launch, Sp l mX14_replay 20 200 1400 [.ref (A 14 0 0)] h (QI A v σ ρ') X0 := by
  intro l
  refine Sp.of rfl rfl (lv := [(0, .ref (A 14 0 0))]) (Nat.le_of_ble_eq_true rfl) rfl (fun x hf hrm => ?_)
  rw [fX14_replay.eq_1] at hr
  refine w_aload_n 0 dX14_replay_0 rfl rfl rfl ?_
  refine w_iconst 0 dX14_replay_1 rfl rfl ?_
  refine p_X14_149 dX14_replay_2 rfl (hz.o14 rfl) ?_
  obtain ⟨ρ1, e2, hr⟩ := lt_e hr
  have hz := (hz.s896 (v := 0) rfl).tr e2
  refine w_aload_n 0 dX14_replay_5 rfl rfl rfl ?_
  have hv3 := hz.ww898 (p := 0) (s := 0) rfl
  refine g_X14_16 dX14_replay_6 rfl (hz.o14 rfl) (hz.rr898 rfl) ?_
  refine g_X14_298 dX14_replay_9 rfl (hz.o12 hv3) (hz.i768 hv3) ?_
  refine w_if_ne 23 dX14_replay_12 rfl rfl (fun q12 => ?_) (fun q12 => ?_)
  · have hr := bf q12 hr
    refine w_aload_n 0 dX14_replay_23 rfl rfl rfl ?_
    obtain ⟨v4, ρ5, e6, hr⟩ := bq_some hr
    refine c_X14_586 (As := []) (rest := []) (fun l => s_X14_doAgain  hz e6 l) hrm dX14_replay_24 rfl rfl (Nat.le_of_ble_eq_true rfl) (Nat.le_of_ble_eq_true rfl) (Nat.le_of_ble_eq_true rfl) (hz.o14 rfl) rfl (Nat.le_of_ble_eq_true rfl) (fun vr h2 hq => ?_) (fun E9 h9 hq => hq.elim)
    obtain ⟨rfl, hz⟩ := hq
    show wp _ _ 27 [(0, .ref (A 14 0 0))] [.int v4] _ _ _
    refine w_iret hf dX14_replay_27 rfl (Nat.le_of_ble_eq_true rfl) (Nat.le_of_ble_eq_true rfl) ?_
    obtain ⟨rfl, rfl⟩ := ret_inj hr
    exact ⟨rfl, hz⟩
  · have hr := bt q12 hr
    refine w_aload_n 0 dX14_replay_15 rfl rfl rfl ?_
    refine w_iconst 1 dX14_replay_16 rfl rfl ?_
    obtain ⟨v8, ρ9, e10, hr⟩ := bq_some hr
    refine c_X14_155 (As := [.int 1]) (rest := []) (fun l => s_X14_fail  hz e10 l) hrm dX14_replay_17 rfl rfl (Nat.le_of_ble_eq_true rfl) (Nat.le_of_ble_eq_true rfl) (Nat.le_of_ble_eq_true rfl) (hz.o14 rfl) rfl (Nat.le_of_ble_eq_true rfl) (fun vr h2 hq => ?_) (fun E9 h9 hq => hq.elim)
    obtain ⟨rfl, hz⟩ := hq
    show wp _ _ 20 [(0, .ref (A 14 0 0))] [.int v8] _ _ _
    refine w_goto 27 dX14_replay_20 rfl ?_
    refine w_iret hf dX14_replay_27 rfl (Nat.le_of_ble_eq_true rfl) (Nat.le_of_ble_eq_true rfl) ?_
    obtain ⟨rfl, rfl⟩ := ret_inj hr
    exact ⟨rfl, hz⟩

