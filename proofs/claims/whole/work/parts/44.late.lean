/-! LIFTED, beside a row by itself: 44.late -/
set_option maxRecDepth 20000 in
set_option maxHeartbeats 4000000 in
theorem y_X14_takeOut_12 {A : Nat → Nat → Nat → Nat} {q0 : Nat} {σ ρ' : Zs} {v : Unit} {x : Cxt} {x1 : Int32}  (hf : m_fin 0 0 ((QVL q0) A v σ ρ') X0 x) (hrm : m_rm 10 0 0 x)  : ∀ (n : Nat) (y2 : Int32) (ρ : Zs) (h : Hp), RpL A q0 h σ ρ → fX14_takeOut_12 x1  n y2 ρ = some (v, ρ') → wp x mX14_takeOut 12 [(0, .ref (A 14 0 0)), (1, .int x1), (2, .int y2)] [] h 0 0
  | 0, _, ρ, h => fun hz hr => by
    rw [fX14_takeOut_12.eq_1] at hr
    exact nono hr
  | n + 1, y2, ρ, h => fun hz hr => by
    rw [fX14_takeOut_12.eq_2] at hr
    refine w_iload_n 2 dX14_takeOut_12 rfl rfl rfl ?_
    refine w_aload_n 0 dX14_takeOut_13 rfl rfl rfl ?_
    refine g_X14_440 dX14_takeOut_14 rfl (hz.o14 rfl) (hz.i923 rfl) ?_
    refine w_icmp_ge 54 dX14_takeOut_17 rfl rfl (fun q17 => ?_) (fun q17 => ?_)
    · have hr := bt q17 hr
      refine w_aload_n 0 dX14_takeOut_54 rfl rfl rfl ?_
      refine g_X14_73 dX14_takeOut_55 rfl (hz.o14 rfl) (hz.r926 rfl) ?_
      refine w_bipush 7 dX14_takeOut_58 rfl rfl ?_
      refine w_iload_n 1 dX14_takeOut_60 rfl rfl rfl ?_
      refine w_iconst 1 dX14_takeOut_61 rfl rfl ?_
      refine w_iadd dX14_takeOut_62 rfl ?_
      refine w_imul dX14_takeOut_63 rfl ?_
      refine w_aload_n 0 dX14_takeOut_64 rfl rfl rfl ?_
      refine g_X14_73 dX14_takeOut_65 rfl (hz.o14 rfl) (hz.r926 rfl) ?_
      refine w_bipush 7 dX14_takeOut_68 rfl rfl ?_
      refine w_iload_n 1 dX14_takeOut_70 rfl rfl rfl ?_
      refine w_imul dX14_takeOut_71 rfl ?_
      refine w_bipush 7 dX14_takeOut_72 rfl rfl ?_
      refine w_aload_n 0 dX14_takeOut_74 rfl rfl rfl ?_
      refine g_X14_440 dX14_takeOut_75 rfl (hz.o14 rfl) (hz.i923 rfl) ?_
      refine w_iload_n 1 dX14_takeOut_78 rfl rfl rfl ?_
      refine w_isub dX14_takeOut_79 rfl ?_
      refine w_imul dX14_takeOut_80 rfl ?_
      obtain ⟨g3, hr⟩ := gd hr
      refine w_copyl hrm (by decide) dX14_takeOut_81 rfl (hz.k926 rfl) (hz.k926 rfl) (hz.n926 rfl) (hz.n926 rfl) g3 (Nat.le_of_ble_eq_true rfl) ?_
      obtain ⟨ρ4, e5, hr⟩ := lt_e hr
      have hz := (hz.vC (f2 := 926) (sp := Int32.toNatClampNeg (7 * (x1 + 1))) (dp := Int32.toNatClampNeg (7 * x1)) (n := Int32.toNatClampNeg (7 * ((zI ρ 923 0 0 0) - x1))) (aok_926 rfl) rfl rfl (by decide) rfl rfl).tr e5
      refine w_vret hf dX14_takeOut_84 rfl (Nat.le_of_ble_eq_true rfl) (Nat.le_of_ble_eq_true rfl) ?_
      obtain ⟨rfl, rfl⟩ := ret_inj hr
      exact ⟨rfl, hz⟩
    · have hr := bf q17 hr
      refine w_aload_n 0 dX14_takeOut_20 rfl rfl rfl ?_
      refine g_X14_67 dX14_takeOut_21 rfl (hz.o14 rfl) (hz.r924 rfl) ?_
      refine w_iload_n 2 dX14_takeOut_24 rfl rfl rfl ?_
      refine w_aload_n 0 dX14_takeOut_25 rfl rfl rfl ?_
      refine g_X14_67 dX14_takeOut_26 rfl (hz.o14 rfl) (hz.r924 rfl) ?_
      refine w_iload_n 2 dX14_takeOut_29 rfl rfl rfl ?_
      refine w_iconst 1 dX14_takeOut_30 rfl rfl ?_
      refine w_iadd dX14_takeOut_31 rfl ?_
      obtain ⟨g6, hr⟩ := gd hr
      refine w_iald dX14_takeOut_32 rfl (hz.k924 rfl) (gin (hz.n924 rfl) g6) (hz.x924 rfl) ?_
      obtain ⟨g7, hr⟩ := gd hr
      refine w_iast dX14_takeOut_33 rfl (hz.k924 rfl) (gin (hz.n924 rfl) g7) ?_
      obtain ⟨ρ8, e9, hr⟩ := lt_e hr
      have hz := (hz.s924 (i := (Int32.toNatClampNeg y2)) (v := (zI ρ 1948 0 0 (Int32.toNatClampNeg (y2 + 1)))) rfl).tr e9
      refine w_aload_n 0 dX14_takeOut_34 rfl rfl rfl ?_
      refine g_X14_70 dX14_takeOut_35 rfl (hz.o14 rfl) (hz.r925 rfl) ?_
      refine w_iload_n 2 dX14_takeOut_38 rfl rfl rfl ?_
      refine w_aload_n 0 dX14_takeOut_39 rfl rfl rfl ?_
      refine g_X14_70 dX14_takeOut_40 rfl (hz.o14 rfl) (hz.r925 rfl) ?_
      refine w_iload_n 2 dX14_takeOut_43 rfl rfl rfl ?_
      refine w_iconst 1 dX14_takeOut_44 rfl rfl ?_
      refine w_iadd dX14_takeOut_45 rfl ?_
      obtain ⟨g10, hr⟩ := gd hr
      refine w_iald dX14_takeOut_46 rfl (hz.k925 rfl) (gin (hz.n925 rfl) g10) (hz.x925 rfl) ?_
      obtain ⟨g11, hr⟩ := gd hr
      refine w_iast dX14_takeOut_47 rfl (hz.k925 rfl) (gin (hz.n925 rfl) g11) ?_
      obtain ⟨ρ12, e13, hr⟩ := lt_e hr
      have hz := (hz.s925 (i := (Int32.toNatClampNeg y2)) (v := (zI ρ8 1949 0 0 (Int32.toNatClampNeg (y2 + 1)))) rfl).tr e13
      refine w_iinc 2 (y2 + 1) [(2, .int (y2 + 1)), (0, .ref (A 14 0 0)), (1, .int x1)] dX14_takeOut_48 rfl rfl rfl (by decide) rfl ?_
      refine w_goto 12 dX14_takeOut_51 rfl ?_
      refine w_lv [(0, .ref (A 14 0 0)), (1, .int x1), (2, .int (y2 + 1))] [1, 2, 0] rfl ?_
      exact y_X14_takeOut_12 hf hrm   n (y2 + 1) _ _ hz  hr
set_option maxRecDepth 20000 in
set_option maxHeartbeats 4000000 in
theorem l_X14_takeOut {A : Nat → Nat → Nat → Nat} {q0 : Nat} {h : Hp} {σ ρ ρ' : Zs} {v : Unit} {x1 : Int32}  (hz : RpL A q0 h σ ρ) (hr : fX14_takeOut x1 ρ = some (v, ρ')) : ∀ l : Launch, Sp l mX14_takeOut 10 0 0 [.ref (A 14 0 0), .int x1] h ((QVL q0) A v σ ρ') X0 := by
  intro l
  refine Sp.of rfl rfl (lv := [(0, .ref (A 14 0 0)), (1, .int x1)]) (Nat.le_of_ble_eq_true rfl) rfl (fun x hf hrm => ?_)
  rw [fX14_takeOut.eq_1] at hr
  refine w_aload_n 0 dX14_takeOut_0 rfl rfl rfl ?_
  refine w_dup dX14_takeOut_1 rfl rfl ?_
  refine g_X14_440 dX14_takeOut_2 rfl (hz.o14 rfl) (hz.i923 rfl) ?_
  refine w_iconst 1 dX14_takeOut_5 rfl rfl ?_
  refine w_isub dX14_takeOut_6 rfl ?_
  refine p_X14_440 dX14_takeOut_7 rfl (hz.o14 rfl) ?_
  obtain ⟨ρ1, e2, hr⟩ := lt_e hr
  have hz := (hz.s923 (v := ((zI ρ 923 0 0 0) - 1)) rfl).tr e2
  refine w_iload_n 1 dX14_takeOut_10 rfl rfl rfl ?_
  refine w_istore_n [(2, .int x1), (0, .ref (A 14 0 0)), (1, .int x1)] dX14_takeOut_11 rfl rfl (by decide) rfl ?_
  refine w_lv [(0, .ref (A 14 0 0)), (1, .int x1), (2, .int x1)] [1, 2, 0] rfl ?_
  exact y_X14_takeOut_12 hf hrm   FU x1 _ _ hz  hr

set_option maxRecDepth 20000 in
set_option maxHeartbeats 4000000 in
theorem l_X14_beginOf {A : Nat → Nat → Nat → Nat} {q0 : Nat} {h : Hp} {σ ρ ρ' : Zs} {v : Int32} {x1 : Int32} {x2 : Int64}  (hz : RpL A q0 h σ ρ) (hr : fX14_beginOf x1 x2 ρ = some (v, ρ')) : ∀ l : Launch, Sp l mX14_beginOf 0 0 0 [.ref (A 14 0 0), .int x1, .long x2] h ((QIL q0) A v σ ρ') X0 := by
  intro l
  refine Sp.of rfl rfl (lv := [(0, .ref (A 14 0 0)), (1, .int x1), (2, .long x2)]) (Nat.le_of_ble_eq_true rfl) rfl (fun x hf hrm => ?_)
  rw [fX14_beginOf.eq_1] at hr
  refine w_lload_n 2 dX14_beginOf_0 rfl rfl rfl ?_
  refine w_aload_n 0 dX14_beginOf_1 rfl rfl rfl ?_
  have hv1 := hz.ww898 (p := 0) (s := 0) rfl
  refine g_X14_16 dX14_beginOf_2 rfl (hz.o14 rfl) (hz.rr898 rfl) ?_
  refine g_X14_369 dX14_beginOf_5 rfl (hz.o12 hv1) (hz.r775 hv1) ?_
  refine w_iload_n 1 dX14_beginOf_8 rfl rfl rfl ?_
  obtain ⟨g2, hr⟩ := gd hr
  refine w_iald dX14_beginOf_9 rfl (hz.k775 hv1) (gin (hz.n775 hv1) g2) (hz.x775 hv1) ?_
  refine w_i2l dX14_beginOf_10 rfl ?_
  obtain ⟨g3, hr⟩ := gd hr
  refine w_ldiv dX14_beginOf_11 rfl g3 ?_
  refine w_aload_n 0 dX14_beginOf_12 rfl rfl rfl ?_
  have hv4 := hz.ww898 (p := 0) (s := 0) rfl
  refine g_X14_16 dX14_beginOf_13 rfl (hz.o14 rfl) (hz.rr898 rfl) ?_
  refine g_X14_369 dX14_beginOf_16 rfl (hz.o12 hv4) (hz.r775 hv4) ?_
  refine w_iload_n 1 dX14_beginOf_19 rfl rfl rfl ?_
  obtain ⟨g5, hr⟩ := gd hr
  refine w_iald dX14_beginOf_20 rfl (hz.k775 hv4) (gin (hz.n775 hv4) g5) (hz.x775 hv4) ?_
  refine w_i2l dX14_beginOf_21 rfl ?_
  refine w_lmul dX14_beginOf_22 rfl ?_
  refine w_l2i dX14_beginOf_23 rfl ?_
  refine w_iret hf dX14_beginOf_24 rfl (Nat.le_of_ble_eq_true rfl) (Nat.le_of_ble_eq_true rfl) ?_
  obtain ⟨rfl, rfl⟩ := ret_inj hr
  exact ⟨rfl, hz⟩

set_option maxRecDepth 20000 in
set_option maxHeartbeats 4000000 in
theorem l_X14_load {A : Nat → Nat → Nat → Nat} {q0 : Nat} {h : Hp} {σ ρ ρ' : Zs} {v : Unit} {x2 : Int32}  (hz : RpL A q0 h σ ρ) (hr : fX14_load 1919 0 0 7 x2 ρ = some (v, ρ')) : ∀ l : Launch, Sp l mX14_load 10 0 0 [.ref (A 14 0 0), .ref q0, .int x2] h ((QVL q0) A v σ ρ') X0 := by
  intro l
  refine Sp.of rfl rfl (lv := [(0, .ref (A 14 0 0)), (1, .ref q0), (2, .int x2)]) (Nat.le_of_ble_eq_true rfl) rfl (fun x hf hrm => ?_)
  rw [fX14_load.eq_1] at hr
  refine w_aload_n 1 dX14_load_0 rfl rfl rfl ?_
  refine w_iload_n 2 dX14_load_1 rfl rfl rfl ?_
  refine w_aload_n 0 dX14_load_2 rfl rfl rfl ?_
  refine g_X14_82 dX14_load_3 rfl (hz.o14 rfl) (hz.r933 rfl) ?_
  refine w_iconst 0 dX14_load_6 rfl rfl ?_
  refine w_bipush 7 dX14_load_7 rfl rfl ?_
  obtain ⟨g1, hr⟩ := gd hr
  refine w_copyl hrm (by decide) dX14_load_9 rfl hz.tk (hz.k933 rfl) hz.tn (hz.n933 rfl) g1 (Nat.le_of_ble_eq_true rfl) ?_
  obtain ⟨ρ2, e3, hr⟩ := lt_e hr
  have hz := (hz.lC (f2 := 933) (sp := Int32.toNatClampNeg x2) (dp := Int32.toNatClampNeg 0) (n := Int32.toNatClampNeg 7) rfl (by decide) rfl rfl).tr e3
  refine w_vret hf dX14_load_12 rfl (Nat.le_of_ble_eq_true rfl) (Nat.le_of_ble_eq_true rfl) ?_
  obtain ⟨rfl, rfl⟩ := ret_inj hr
  exact ⟨rfl, hz⟩

set_option maxRecDepth 20000 in
set_option maxHeartbeats 4000000 in
theorem l_X14_two {A : Nat → Nat → Nat → Nat} {q0 : Nat} {h : Hp} {σ ρ ρ' : Zs} {v : Int64} {x0 : Int32} {x1 : Int64} {x3 : Int64}  (hz : RpL A q0 h σ ρ) (hr : fX14_two x0 x1 x3 ρ = some (v, ρ')) : ∀ l : Launch, Sp l mX14_two 1 0 0 [.int x0, .long x1, .long x3] h ((QJL q0) A v σ ρ') X0 := by
  intro l
  refine Sp.of rfl rfl (lv := [(0, .int x0), (1, .long x1), (3, .long x3)]) (Nat.le_of_ble_eq_true rfl) rfl (fun x hf hrm => ?_)
  rw [fX14_two.eq_1] at hr
  refine w_iload_n 0 dX14_two_0 rfl rfl rfl ?_
  by_cases q1_0 : (x0 : Int32) = 10
  · have hr := bt q1_0 hr
    refine w_tableIn 108 dX14_two_1 (by rw [q1_0]; decide) (by rw [q1_0]; decide) (by rw [q1_0]; rfl) rfl ?_
    refine w_lload_n 1 dX14_two_108 rfl rfl rfl ?_
    refine w_lload_n 2 dX14_two_109 rfl rfl rfl ?_
    refine w_ladd dX14_two_110 rfl ?_
    refine w_lret hf dX14_two_111 rfl (Nat.le_of_ble_eq_true rfl) (Nat.le_of_ble_eq_true rfl) ?_
    obtain ⟨rfl, rfl⟩ := ret_inj hr
    exact ⟨rfl, hz⟩
  have hr := bf q1_0 hr
  by_cases q1_1 : (x0 : Int32) = 11
  · have hr := bt q1_1 hr
    refine w_tableIn 112 dX14_two_1 (by rw [q1_1]; decide) (by rw [q1_1]; decide) (by rw [q1_1]; rfl) rfl ?_
    refine w_lload_n 1 dX14_two_112 rfl rfl rfl ?_
    refine w_lload_n 2 dX14_two_113 rfl rfl rfl ?_
    refine w_lsub dX14_two_114 rfl ?_
    refine w_lret hf dX14_two_115 rfl (Nat.le_of_ble_eq_true rfl) (Nat.le_of_ble_eq_true rfl) ?_
    obtain ⟨rfl, rfl⟩ := ret_inj hr
    exact ⟨rfl, hz⟩
  have hr := bf q1_1 hr
  by_cases q1_2 : (x0 : Int32) = 12
  · have hr := bt q1_2 hr
    refine w_tableIn 116 dX14_two_1 (by rw [q1_2]; decide) (by rw [q1_2]; decide) (by rw [q1_2]; rfl) rfl ?_
    refine w_lload_n 1 dX14_two_116 rfl rfl rfl ?_
    refine w_lload_n 2 dX14_two_117 rfl rfl rfl ?_
    refine w_lmul dX14_two_118 rfl ?_
    refine w_lret hf dX14_two_119 rfl (Nat.le_of_ble_eq_true rfl) (Nat.le_of_ble_eq_true rfl) ?_
    obtain ⟨rfl, rfl⟩ := ret_inj hr
    exact ⟨rfl, hz⟩
  have hr := bf q1_2 hr
  by_cases q1_3 : (x0 : Int32) = 13
  · have hr := bt q1_3 hr
    refine w_tableIn 120 dX14_two_1 (by rw [q1_3]; decide) (by rw [q1_3]; decide) (by rw [q1_3]; rfl) rfl ?_
    refine w_lload_n 2 dX14_two_120 rfl rfl rfl ?_
    refine w_lconst 0 dX14_two_121 rfl rfl ?_
    refine w_lcmp dX14_two_122 rfl ?_
    refine w_if_ne 130 dX14_two_123 rfl rfl (fun q123 => ?_) (fun q123 => ?_)
    · have hr := bf q123 hr
      refine w_lload_n 1 dX14_two_130 rfl rfl rfl ?_
      refine w_lload_n 2 dX14_two_131 rfl rfl rfl ?_
      obtain ⟨g1, hr⟩ := gd hr
      refine w_ldiv dX14_two_132 rfl g1 ?_
      refine w_lret hf dX14_two_133 rfl (Nat.le_of_ble_eq_true rfl) (Nat.le_of_ble_eq_true rfl) ?_
      obtain ⟨rfl, rfl⟩ := ret_inj hr
      exact ⟨rfl, hz⟩
    · have hr := bt q123 hr
      refine w_lconst 0 dX14_two_126 rfl rfl ?_
      refine w_goto 133 dX14_two_127 rfl ?_
      refine w_lret hf dX14_two_133 rfl (Nat.le_of_ble_eq_true rfl) (Nat.le_of_ble_eq_true rfl) ?_
      obtain ⟨rfl, rfl⟩ := ret_inj hr
      exact ⟨rfl, hz⟩
  have hr := bf q1_3 hr
  by_cases q1_4 : (x0 : Int32) = 14
  · have hr := bt q1_4 hr
    refine w_tableIn 134 dX14_two_1 (by rw [q1_4]; decide) (by rw [q1_4]; decide) (by rw [q1_4]; rfl) rfl ?_
    refine w_lload_n 2 dX14_two_134 rfl rfl rfl ?_
    refine w_lconst 0 dX14_two_135 rfl rfl ?_
    refine w_lcmp dX14_two_136 rfl ?_
    refine w_if_ne 144 dX14_two_137 rfl rfl (fun q137 => ?_) (fun q137 => ?_)
    · have hr := bf q137 hr
      refine w_lload_n 1 dX14_two_144 rfl rfl rfl ?_
      refine w_lload_n 2 dX14_two_145 rfl rfl rfl ?_
      obtain ⟨g2, hr⟩ := gd hr
      refine w_lrem dX14_two_146 rfl g2 ?_
      refine w_lret hf dX14_two_147 rfl (Nat.le_of_ble_eq_true rfl) (Nat.le_of_ble_eq_true rfl) ?_
      obtain ⟨rfl, rfl⟩ := ret_inj hr
      exact ⟨rfl, hz⟩
    · have hr := bt q137 hr
      refine w_lconst 0 dX14_two_140 rfl rfl ?_
      refine w_goto 147 dX14_two_141 rfl ?_
      refine w_lret hf dX14_two_147 rfl (Nat.le_of_ble_eq_true rfl) (Nat.le_of_ble_eq_true rfl) ?_
      obtain ⟨rfl, rfl⟩ := ret_inj hr
      exact ⟨rfl, hz⟩
  have hr := bf q1_4 hr
  by_cases q1_5 : (x0 : Int32) = 15
  · have hr := bt q1_5 hr
    refine w_tableIn 262 dX14_two_1 (by rw [q1_5]; decide) (by rw [q1_5]; decide) (by rw [q1_5]; rfl) rfl ?_
    refine w_lload_n 1 dX14_two_262 rfl rfl rfl ?_
    refine w_lload_n 2 dX14_two_263 rfl rfl rfl ?_
    refine w_mlmax hrm (by decide) dX14_two_264 rfl ml_X14_466 (Nat.le_of_ble_eq_true rfl) (Nat.le_of_ble_eq_true rfl) (Nat.le_of_ble_eq_true rfl) ?_
    refine w_lret hf dX14_two_267 rfl (Nat.le_of_ble_eq_true rfl) (Nat.le_of_ble_eq_true rfl) ?_
    obtain ⟨rfl, rfl⟩ := ret_inj hr
    exact ⟨rfl, hz⟩
  have hr := bf q1_5 hr
  by_cases q1_6 : (x0 : Int32) = 16
  · have hr := bt q1_6 hr
    refine w_tableIn 262 dX14_two_1 (by rw [q1_6]; decide) (by rw [q1_6]; decide) (by rw [q1_6]; rfl) rfl ?_
    refine w_lload_n 1 dX14_two_262 rfl rfl rfl ?_
    refine w_lload_n 2 dX14_two_263 rfl rfl rfl ?_
    refine w_mlmax hrm (by decide) dX14_two_264 rfl ml_X14_466 (Nat.le_of_ble_eq_true rfl) (Nat.le_of_ble_eq_true rfl) (Nat.le_of_ble_eq_true rfl) ?_
    refine w_lret hf dX14_two_267 rfl (Nat.le_of_ble_eq_true rfl) (Nat.le_of_ble_eq_true rfl) ?_
    obtain ⟨rfl, rfl⟩ := ret_inj hr
    exact ⟨rfl, hz⟩
  have hr := bf q1_6 hr
  by_cases q1_7 : (x0 : Int32) = 17
  · have hr := bt q1_7 hr
    refine w_tableIn 262 dX14_two_1 (by rw [q1_7]; decide) (by rw [q1_7]; decide) (by rw [q1_7]; rfl) rfl ?_
    refine w_lload_n 1 dX14_two_262 rfl rfl rfl ?_
    refine w_lload_n 2 dX14_two_263 rfl rfl rfl ?_
    refine w_mlmax hrm (by decide) dX14_two_264 rfl ml_X14_466 (Nat.le_of_ble_eq_true rfl) (Nat.le_of_ble_eq_true rfl) (Nat.le_of_ble_eq_true rfl) ?_
    refine w_lret hf dX14_two_267 rfl (Nat.le_of_ble_eq_true rfl) (Nat.le_of_ble_eq_true rfl) ?_
    obtain ⟨rfl, rfl⟩ := ret_inj hr
    exact ⟨rfl, hz⟩
  have hr := bf q1_7 hr
  by_cases q1_8 : (x0 : Int32) = 18
  · have hr := bt q1_8 hr
    refine w_tableIn 262 dX14_two_1 (by rw [q1_8]; decide) (by rw [q1_8]; decide) (by rw [q1_8]; rfl) rfl ?_
    refine w_lload_n 1 dX14_two_262 rfl rfl rfl ?_
    refine w_lload_n 2 dX14_two_263 rfl rfl rfl ?_
    refine w_mlmax hrm (by decide) dX14_two_264 rfl ml_X14_466 (Nat.le_of_ble_eq_true rfl) (Nat.le_of_ble_eq_true rfl) (Nat.le_of_ble_eq_true rfl) ?_
    refine w_lret hf dX14_two_267 rfl (Nat.le_of_ble_eq_true rfl) (Nat.le_of_ble_eq_true rfl) ?_
    obtain ⟨rfl, rfl⟩ := ret_inj hr
    exact ⟨rfl, hz⟩
  have hr := bf q1_8 hr
  by_cases q1_9 : (x0 : Int32) = 19
  · have hr := bt q1_9 hr
    refine w_tableIn 262 dX14_two_1 (by rw [q1_9]; decide) (by rw [q1_9]; decide) (by rw [q1_9]; rfl) rfl ?_
    refine w_lload_n 1 dX14_two_262 rfl rfl rfl ?_
    refine w_lload_n 2 dX14_two_263 rfl rfl rfl ?_
    refine w_mlmax hrm (by decide) dX14_two_264 rfl ml_X14_466 (Nat.le_of_ble_eq_true rfl) (Nat.le_of_ble_eq_true rfl) (Nat.le_of_ble_eq_true rfl) ?_
    refine w_lret hf dX14_two_267 rfl (Nat.le_of_ble_eq_true rfl) (Nat.le_of_ble_eq_true rfl) ?_
    obtain ⟨rfl, rfl⟩ := ret_inj hr
    exact ⟨rfl, hz⟩
  have hr := bf q1_9 hr
  by_cases q1_10 : (x0 : Int32) = 20
  · have hr := bt q1_10 hr
    refine w_tableIn 148 dX14_two_1 (by rw [q1_10]; decide) (by rw [q1_10]; decide) (by rw [q1_10]; rfl) rfl ?_
    refine w_lload_n 1 dX14_two_148 rfl rfl rfl ?_
    refine w_lload_n 2 dX14_two_149 rfl rfl rfl ?_
    refine w_lcmp dX14_two_150 rfl ?_
    refine w_if_ne 158 dX14_two_151 rfl rfl (fun q151 => ?_) (fun q151 => ?_)
    · have hr := bf q151 hr
      refine w_lconst 0 dX14_two_158 rfl rfl ?_
      refine w_lret hf dX14_two_159 rfl (Nat.le_of_ble_eq_true rfl) (Nat.le_of_ble_eq_true rfl) ?_
      obtain ⟨rfl, rfl⟩ := ret_inj hr
      exact ⟨rfl, hz⟩
    · have hr := bt q151 hr
      refine w_lconst 1 dX14_two_154 rfl rfl ?_
      refine w_goto 159 dX14_two_155 rfl ?_
      refine w_lret hf dX14_two_159 rfl (Nat.le_of_ble_eq_true rfl) (Nat.le_of_ble_eq_true rfl) ?_
      obtain ⟨rfl, rfl⟩ := ret_inj hr
      exact ⟨rfl, hz⟩
  have hr := bf q1_10 hr
  by_cases q1_11 : (x0 : Int32) = 21
  · have hr := bt q1_11 hr
    refine w_tableIn 160 dX14_two_1 (by rw [q1_11]; decide) (by rw [q1_11]; decide) (by rw [q1_11]; rfl) rfl ?_
    refine w_lload_n 1 dX14_two_160 rfl rfl rfl ?_
    refine w_lload_n 2 dX14_two_161 rfl rfl rfl ?_
    refine w_lcmp dX14_two_162 rfl ?_
    refine w_if_eq 170 dX14_two_163 rfl rfl (fun q163 => ?_) (fun q163 => ?_)
    · have hr := bt q163 hr
      refine w_lconst 0 dX14_two_170 rfl rfl ?_
      refine w_lret hf dX14_two_171 rfl (Nat.le_of_ble_eq_true rfl) (Nat.le_of_ble_eq_true rfl) ?_
      obtain ⟨rfl, rfl⟩ := ret_inj hr
      exact ⟨rfl, hz⟩
    · have hr := bf q163 hr
      refine w_lconst 1 dX14_two_166 rfl rfl ?_
      refine w_goto 171 dX14_two_167 rfl ?_
      refine w_lret hf dX14_two_171 rfl (Nat.le_of_ble_eq_true rfl) (Nat.le_of_ble_eq_true rfl) ?_
      obtain ⟨rfl, rfl⟩ := ret_inj hr
      exact ⟨rfl, hz⟩
  have hr := bf q1_11 hr
  by_cases q1_12 : (x0 : Int32) = 22
  · have hr := bt q1_12 hr
    refine w_tableIn 172 dX14_two_1 (by rw [q1_12]; decide) (by rw [q1_12]; decide) (by rw [q1_12]; rfl) rfl ?_
    refine w_lload_n 1 dX14_two_172 rfl rfl rfl ?_
    refine w_lload_n 2 dX14_two_173 rfl rfl rfl ?_
    refine w_lcmp dX14_two_174 rfl ?_
    refine w_if_ge 182 dX14_two_175 rfl rfl (fun q175 => ?_) (fun q175 => ?_)
    · have hr := bt q175 hr
      refine w_lconst 0 dX14_two_182 rfl rfl ?_
      refine w_lret hf dX14_two_183 rfl (Nat.le_of_ble_eq_true rfl) (Nat.le_of_ble_eq_true rfl) ?_
      obtain ⟨rfl, rfl⟩ := ret_inj hr
      exact ⟨rfl, hz⟩
    · have hr := bf q175 hr
      refine w_lconst 1 dX14_two_178 rfl rfl ?_
      refine w_goto 183 dX14_two_179 rfl ?_
      refine w_lret hf dX14_two_183 rfl (Nat.le_of_ble_eq_true rfl) (Nat.le_of_ble_eq_true rfl) ?_
      obtain ⟨rfl, rfl⟩ := ret_inj hr
      exact ⟨rfl, hz⟩
  have hr := bf q1_12 hr
  by_cases q1_13 : (x0 : Int32) = 23
  · have hr := bt q1_13 hr
    refine w_tableIn 184 dX14_two_1 (by rw [q1_13]; decide) (by rw [q1_13]; decide) (by rw [q1_13]; rfl) rfl ?_
    refine w_lload_n 1 dX14_two_184 rfl rfl rfl ?_
    refine w_lload_n 2 dX14_two_185 rfl rfl rfl ?_
    refine w_lcmp dX14_two_186 rfl ?_
    refine w_if_le 194 dX14_two_187 rfl rfl (fun q187 => ?_) (fun q187 => ?_)
    · have hr := bt q187 hr
      refine w_lconst 0 dX14_two_194 rfl rfl ?_
      refine w_lret hf dX14_two_195 rfl (Nat.le_of_ble_eq_true rfl) (Nat.le_of_ble_eq_true rfl) ?_
      obtain ⟨rfl, rfl⟩ := ret_inj hr
      exact ⟨rfl, hz⟩
    · have hr := bf q187 hr
      refine w_lconst 1 dX14_two_190 rfl rfl ?_
      refine w_goto 195 dX14_two_191 rfl ?_
      refine w_lret hf dX14_two_195 rfl (Nat.le_of_ble_eq_true rfl) (Nat.le_of_ble_eq_true rfl) ?_
      obtain ⟨rfl, rfl⟩ := ret_inj hr
      exact ⟨rfl, hz⟩
  have hr := bf q1_13 hr
  by_cases q1_14 : (x0 : Int32) = 24
  · have hr := bt q1_14 hr
    refine w_tableIn 196 dX14_two_1 (by rw [q1_14]; decide) (by rw [q1_14]; decide) (by rw [q1_14]; rfl) rfl ?_
    refine w_lload_n 1 dX14_two_196 rfl rfl rfl ?_
    refine w_lload_n 2 dX14_two_197 rfl rfl rfl ?_
    refine w_lcmp dX14_two_198 rfl ?_
    refine w_if_gt 206 dX14_two_199 rfl rfl (fun q199 => ?_) (fun q199 => ?_)
    · have hr := bt q199 hr
      refine w_lconst 0 dX14_two_206 rfl rfl ?_
      refine w_lret hf dX14_two_207 rfl (Nat.le_of_ble_eq_true rfl) (Nat.le_of_ble_eq_true rfl) ?_
      obtain ⟨rfl, rfl⟩ := ret_inj hr
      exact ⟨rfl, hz⟩
    · have hr := bf q199 hr
      refine w_lconst 1 dX14_two_202 rfl rfl ?_
      refine w_goto 207 dX14_two_203 rfl ?_
      refine w_lret hf dX14_two_207 rfl (Nat.le_of_ble_eq_true rfl) (Nat.le_of_ble_eq_true rfl) ?_
      obtain ⟨rfl, rfl⟩ := ret_inj hr
      exact ⟨rfl, hz⟩
  have hr := bf q1_14 hr
  by_cases q1_15 : (x0 : Int32) = 25
  · have hr := bt q1_15 hr
    refine w_tableIn 208 dX14_two_1 (by rw [q1_15]; decide) (by rw [q1_15]; decide) (by rw [q1_15]; rfl) rfl ?_
    refine w_lload_n 1 dX14_two_208 rfl rfl rfl ?_
    refine w_lload_n 2 dX14_two_209 rfl rfl rfl ?_
    refine w_lcmp dX14_two_210 rfl ?_
    refine w_if_lt 218 dX14_two_211 rfl rfl (fun q211 => ?_) (fun q211 => ?_)
    · have hr := bt q211 hr
      refine w_lconst 0 dX14_two_218 rfl rfl ?_
      refine w_lret hf dX14_two_219 rfl (Nat.le_of_ble_eq_true rfl) (Nat.le_of_ble_eq_true rfl) ?_
      obtain ⟨rfl, rfl⟩ := ret_inj hr
      exact ⟨rfl, hz⟩
    · have hr := bf q211 hr
      refine w_lconst 1 dX14_two_214 rfl rfl ?_
      refine w_goto 219 dX14_two_215 rfl ?_
      refine w_lret hf dX14_two_219 rfl (Nat.le_of_ble_eq_true rfl) (Nat.le_of_ble_eq_true rfl) ?_
      obtain ⟨rfl, rfl⟩ := ret_inj hr
      exact ⟨rfl, hz⟩
  have hr := bf q1_15 hr
  by_cases q1_16 : (x0 : Int32) = 26
  · have hr := bt q1_16 hr
    refine w_tableIn 262 dX14_two_1 (by rw [q1_16]; decide) (by rw [q1_16]; decide) (by rw [q1_16]; rfl) rfl ?_
    refine w_lload_n 1 dX14_two_262 rfl rfl rfl ?_
    refine w_lload_n 2 dX14_two_263 rfl rfl rfl ?_
    refine w_mlmax hrm (by decide) dX14_two_264 rfl ml_X14_466 (Nat.le_of_ble_eq_true rfl) (Nat.le_of_ble_eq_true rfl) (Nat.le_of_ble_eq_true rfl) ?_
    refine w_lret hf dX14_two_267 rfl (Nat.le_of_ble_eq_true rfl) (Nat.le_of_ble_eq_true rfl) ?_
    obtain ⟨rfl, rfl⟩ := ret_inj hr
    exact ⟨rfl, hz⟩
  have hr := bf q1_16 hr
  by_cases q1_17 : (x0 : Int32) = 27
  · have hr := bt q1_17 hr
    refine w_tableIn 262 dX14_two_1 (by rw [q1_17]; decide) (by rw [q1_17]; decide) (by rw [q1_17]; rfl) rfl ?_
    refine w_lload_n 1 dX14_two_262 rfl rfl rfl ?_
    refine w_lload_n 2 dX14_two_263 rfl rfl rfl ?_
    refine w_mlmax hrm (by decide) dX14_two_264 rfl ml_X14_466 (Nat.le_of_ble_eq_true rfl) (Nat.le_of_ble_eq_true rfl) (Nat.le_of_ble_eq_true rfl) ?_
    refine w_lret hf dX14_two_267 rfl (Nat.le_of_ble_eq_true rfl) (Nat.le_of_ble_eq_true rfl) ?_
    obtain ⟨rfl, rfl⟩ := ret_inj hr
    exact ⟨rfl, hz⟩
  have hr := bf q1_17 hr
  by_cases q1_18 : (x0 : Int32) = 28
  · have hr := bt q1_18 hr
    refine w_tableIn 262 dX14_two_1 (by rw [q1_18]; decide) (by rw [q1_18]; decide) (by rw [q1_18]; rfl) rfl ?_
    refine w_lload_n 1 dX14_two_262 rfl rfl rfl ?_
    refine w_lload_n 2 dX14_two_263 rfl rfl rfl ?_
    refine w_mlmax hrm (by decide) dX14_two_264 rfl ml_X14_466 (Nat.le_of_ble_eq_true rfl) (Nat.le_of_ble_eq_true rfl) (Nat.le_of_ble_eq_true rfl) ?_
    refine w_lret hf dX14_two_267 rfl (Nat.le_of_ble_eq_true rfl) (Nat.le_of_ble_eq_true rfl) ?_
    obtain ⟨rfl, rfl⟩ := ret_inj hr
    exact ⟨rfl, hz⟩
  have hr := bf q1_18 hr
  by_cases q1_19 : (x0 : Int32) = 29
  · have hr := bt q1_19 hr
    refine w_tableIn 262 dX14_two_1 (by rw [q1_19]; decide) (by rw [q1_19]; decide) (by rw [q1_19]; rfl) rfl ?_
    refine w_lload_n 1 dX14_two_262 rfl rfl rfl ?_
    refine w_lload_n 2 dX14_two_263 rfl rfl rfl ?_
    refine w_mlmax hrm (by decide) dX14_two_264 rfl ml_X14_466 (Nat.le_of_ble_eq_true rfl) (Nat.le_of_ble_eq_true rfl) (Nat.le_of_ble_eq_true rfl) ?_
    refine w_lret hf dX14_two_267 rfl (Nat.le_of_ble_eq_true rfl) (Nat.le_of_ble_eq_true rfl) ?_
    obtain ⟨rfl, rfl⟩ := ret_inj hr
    exact ⟨rfl, hz⟩
  have hr := bf q1_19 hr
  by_cases q1_20 : (x0 : Int32) = 30
  · have hr := bt q1_20 hr
    refine w_tableIn 220 dX14_two_1 (by rw [q1_20]; decide) (by rw [q1_20]; decide) (by rw [q1_20]; rfl) rfl ?_
    refine w_lload_n 1 dX14_two_220 rfl rfl rfl ?_
    refine w_lconst 0 dX14_two_221 rfl rfl ?_
    refine w_lcmp dX14_two_222 rfl ?_
    refine w_if_eq 236 dX14_two_223 rfl rfl (fun q223 => ?_) (fun q223 => ?_)
    · have hr := bt q223 hr
      refine w_lconst 0 dX14_two_236 rfl rfl ?_
      refine w_lret hf dX14_two_237 rfl (Nat.le_of_ble_eq_true rfl) (Nat.le_of_ble_eq_true rfl) ?_
      obtain ⟨rfl, rfl⟩ := ret_inj hr
      exact ⟨rfl, hz⟩
    · have hr := bf q223 hr
      refine w_lload_n 2 dX14_two_226 rfl rfl rfl ?_
      refine w_lconst 0 dX14_two_227 rfl rfl ?_
      refine w_lcmp dX14_two_228 rfl ?_
      refine w_if_eq 236 dX14_two_229 rfl rfl (fun q229 => ?_) (fun q229 => ?_)
      · have hr := bt q229 hr
        refine w_lconst 0 dX14_two_236 rfl rfl ?_
        refine w_lret hf dX14_two_237 rfl (Nat.le_of_ble_eq_true rfl) (Nat.le_of_ble_eq_true rfl) ?_
        obtain ⟨rfl, rfl⟩ := ret_inj hr
        exact ⟨rfl, hz⟩
      · have hr := bf q229 hr
        refine w_lconst 1 dX14_two_232 rfl rfl ?_
        refine w_goto 237 dX14_two_233 rfl ?_
        refine w_lret hf dX14_two_237 rfl (Nat.le_of_ble_eq_true rfl) (Nat.le_of_ble_eq_true rfl) ?_
        obtain ⟨rfl, rfl⟩ := ret_inj hr
        exact ⟨rfl, hz⟩
  have hr := bf q1_20 hr
  by_cases q1_21 : (x0 : Int32) = 31
  · have hr := bt q1_21 hr
    refine w_tableIn 238 dX14_two_1 (by rw [q1_21]; decide) (by rw [q1_21]; decide) (by rw [q1_21]; rfl) rfl ?_
    refine w_lload_n 1 dX14_two_238 rfl rfl rfl ?_
    refine w_lconst 0 dX14_two_239 rfl rfl ?_
    refine w_lcmp dX14_two_240 rfl ?_
    refine w_if_ne 250 dX14_two_241 rfl rfl (fun q241 => ?_) (fun q241 => ?_)
    · have hr := bf q241 hr
      refine w_lconst 1 dX14_two_250 rfl rfl ?_
      refine w_goto 255 dX14_two_251 rfl ?_
      refine w_lret hf dX14_two_255 rfl (Nat.le_of_ble_eq_true rfl) (Nat.le_of_ble_eq_true rfl) ?_
      obtain ⟨rfl, rfl⟩ := ret_inj hr
      exact ⟨rfl, hz⟩
    · have hr := bt q241 hr
      refine w_lload_n 2 dX14_two_244 rfl rfl rfl ?_
      refine w_lconst 0 dX14_two_245 rfl rfl ?_
      refine w_lcmp dX14_two_246 rfl ?_
      refine w_if_eq 254 dX14_two_247 rfl rfl (fun q247 => ?_) (fun q247 => ?_)
      · have hr := bt q247 hr
        refine w_lconst 0 dX14_two_254 rfl rfl ?_
        refine w_lret hf dX14_two_255 rfl (Nat.le_of_ble_eq_true rfl) (Nat.le_of_ble_eq_true rfl) ?_
        obtain ⟨rfl, rfl⟩ := ret_inj hr
        exact ⟨rfl, hz⟩
      · have hr := bf q247 hr
        refine w_lconst 1 dX14_two_250 rfl rfl ?_
        refine w_goto 255 dX14_two_251 rfl ?_
        refine w_lret hf dX14_two_255 rfl (Nat.le_of_ble_eq_true rfl) (Nat.le_of_ble_eq_true rfl) ?_
        obtain ⟨rfl, rfl⟩ := ret_inj hr
        exact ⟨rfl, hz⟩
  have hr := bf q1_21 hr
  by_cases q1_22 : (x0 : Int32) = 32
  · have hr := bt q1_22 hr
    refine w_tableIn 256 dX14_two_1 (by rw [q1_22]; decide) (by rw [q1_22]; decide) (by rw [q1_22]; rfl) rfl ?_
    refine w_lload_n 1 dX14_two_256 rfl rfl rfl ?_
    refine w_lload_n 2 dX14_two_257 rfl rfl rfl ?_
    refine w_mlmin hrm (by decide) dX14_two_258 rfl ml_X14_307 (Nat.le_of_ble_eq_true rfl) (Nat.le_of_ble_eq_true rfl) (Nat.le_of_ble_eq_true rfl) ?_
    refine w_lret hf dX14_two_261 rfl (Nat.le_of_ble_eq_true rfl) (Nat.le_of_ble_eq_true rfl) ?_
    obtain ⟨rfl, rfl⟩ := ret_inj hr
    exact ⟨rfl, hz⟩
  have hr := bf q1_22 hr
  refine w_tableOut 262 dX14_two_1 (tabout 10 32 (fun k h1 h2 => by
        intro e
        have h3 : k = 10 ∨ k = 11 ∨ k = 12 ∨ k = 13 ∨ k = 14 ∨ k = 15 ∨ k = 16 ∨ k = 17 ∨ k = 18 ∨ k = 19 ∨ k = 20 ∨ k = 21 ∨ k = 22 ∨ k = 23 ∨ k = 24 ∨ k = 25 ∨ k = 26 ∨ k = 27 ∨ k = 28 ∨ k = 29 ∨ k = 30 ∨ k = 31 ∨ k = 32 := by omega
        rcases h3 with h3 | h3 | h3 | h3 | h3 | h3 | h3 | h3 | h3 | h3 | h3 | h3 | h3 | h3 | h3 | h3 | h3 | h3 | h3 | h3 | h3 | h3 | h3 <;> subst h3 <;> contradiction)) rfl ?_
  refine w_lload_n 1 dX14_two_262 rfl rfl rfl ?_
  refine w_lload_n 2 dX14_two_263 rfl rfl rfl ?_
  refine w_mlmax hrm (by decide) dX14_two_264 rfl ml_X14_466 (Nat.le_of_ble_eq_true rfl) (Nat.le_of_ble_eq_true rfl) (Nat.le_of_ble_eq_true rfl) ?_
  refine w_lret hf dX14_two_267 rfl (Nat.le_of_ble_eq_true rfl) (Nat.le_of_ble_eq_true rfl) ?_
  obtain ⟨rfl, rfl⟩ := ret_inj hr
  exact ⟨rfl, hz⟩

set_option maxRecDepth 20000 in
set_option maxHeartbeats 4000000 in
theorem y_X14_findWindow_3 {A : Nat → Nat → Nat → Nat} {q0 : Nat} {σ ρ' : Zs} {v : Int32} {x : Cxt} {x1 : Int32} {x2 : Int64} {x4 : Int32}  (hf : m_fin 0 0 ((QIL q0) A v σ ρ') X0 x) (hrm : m_rm 0 0 0 x)  : ∀ (n : Nat) (y5 : Int32) (ρ : Zs) (h : Hp), RpL A q0 h σ ρ → fX14_findWindow_3 x1 x2 x4  n y5 ρ = some (v, ρ') → wp x mX14_findWindow 3 [(0, .ref (A 14 0 0)), (1, .int x1), (2, .long x2), (4, .int x4), (5, .int y5)] [] h 0 0
  | 0, _, ρ, h => fun hz hr => by
    rw [fX14_findWindow_3.eq_1] at hr
    exact nono hr
  | n + 1, y5, ρ, h => fun hz hr => by
    rw [fX14_findWindow_3.eq_2] at hr
    refine w_iload 4 dX14_findWindow_3 rfl rfl ?_
    refine w_aload_n 0 dX14_findWindow_5 rfl rfl rfl ?_
    refine g_X14_85 dX14_findWindow_6 rfl (hz.o14 rfl) (hz.r934 rfl) ?_
    refine w_iload_n 1 dX14_findWindow_9 rfl rfl rfl ?_
    obtain ⟨g1, hr⟩ := gd hr
    refine w_iald dX14_findWindow_10 rfl (hz.k934 rfl) (gin (hz.n934 rfl) g1) (hz.x934 rfl) ?_
    refine w_icmp_ge 57 dX14_findWindow_11 rfl rfl (fun q11 => ?_) (fun q11 => ?_)
    · have hr := bt q11 hr
      refine w_iconst (-1) dX14_findWindow_57 rfl rfl ?_
      refine w_iret hf dX14_findWindow_58 rfl (Nat.le_of_ble_eq_true rfl) (Nat.le_of_ble_eq_true rfl) ?_
      obtain ⟨rfl, rfl⟩ := ret_inj hr
      exact ⟨rfl, hz⟩
    · have hr := bf q11 hr
      refine w_aload_n 0 dX14_findWindow_14 rfl rfl rfl ?_
      refine g_X14_88 dX14_findWindow_15 rfl (hz.o14 rfl) (hz.r935 rfl) ?_
      refine w_bipush 60 dX14_findWindow_18 rfl rfl ?_
      refine w_iload_n 1 dX14_findWindow_20 rfl rfl rfl ?_
      refine w_imul dX14_findWindow_21 rfl ?_
      refine w_iload 4 dX14_findWindow_22 rfl rfl ?_
      refine w_iadd dX14_findWindow_24 rfl ?_
      obtain ⟨g2, hr⟩ := gd hr
      refine w_lald dX14_findWindow_25 rfl (hz.k935 rfl) (gin (hz.n935 rfl) g2) (hz.x935 rfl) ?_
      refine w_lload_n 2 dX14_findWindow_26 rfl rfl rfl ?_
      refine w_lcmp dX14_findWindow_27 rfl ?_
      refine w_if_ne 51 dX14_findWindow_28 rfl rfl (fun q28 => ?_) (fun q28 => ?_)
      · have hr := bf q28 hr
        refine w_iinc 4 (y5 + 1) [(5, .int (y5 + 1)), (0, .ref (A 14 0 0)), (1, .int x1), (2, .long x2), (4, .int x4)] dX14_findWindow_51 rfl rfl rfl (by decide) rfl ?_
        refine w_goto 3 dX14_findWindow_54 rfl ?_
        refine w_lv [(0, .ref (A 14 0 0)), (1, .int x1), (2, .long x2), (4, .int x4), (5, .int (y5 + 1))] [1, 2, 3, 4, 0] rfl ?_
        exact y_X14_findWindow_3 hf hrm   n (y5 + 1) _ _ hz  hr
      · have hr := bt q28 hr
        refine w_aload_n 0 dX14_findWindow_31 rfl rfl rfl ?_
        refine g_X14_91 dX14_findWindow_32 rfl (hz.o14 rfl) (hz.r936 rfl) ?_
        refine w_bipush 60 dX14_findWindow_35 rfl rfl ?_
        refine w_iload_n 1 dX14_findWindow_37 rfl rfl rfl ?_
        refine w_imul dX14_findWindow_38 rfl ?_
        refine w_iload 4 dX14_findWindow_39 rfl rfl ?_
        refine w_iadd dX14_findWindow_41 rfl ?_
        obtain ⟨g3, hr⟩ := gd hr
        refine w_iald dX14_findWindow_42 rfl (hz.k936 rfl) (gin (hz.n936 rfl) g3) (hz.x936 rfl) ?_
        refine w_iload 3 dX14_findWindow_43 rfl rfl ?_
        refine w_icmp_ne 51 dX14_findWindow_45 rfl rfl (fun q45 => ?_) (fun q45 => ?_)
        · have hr := bf q45 hr
          refine w_iinc 4 (y5 + 1) [(5, .int (y5 + 1)), (0, .ref (A 14 0 0)), (1, .int x1), (2, .long x2), (4, .int x4)] dX14_findWindow_51 rfl rfl rfl (by decide) rfl ?_
          refine w_goto 3 dX14_findWindow_54 rfl ?_
          refine w_lv [(0, .ref (A 14 0 0)), (1, .int x1), (2, .long x2), (4, .int x4), (5, .int (y5 + 1))] [1, 2, 3, 4, 0] rfl ?_
          exact y_X14_findWindow_3 hf hrm   n (y5 + 1) _ _ hz  hr
        · have hr := bt q45 hr
          refine w_iload 4 dX14_findWindow_48 rfl rfl ?_
          refine w_iret hf dX14_findWindow_50 rfl (Nat.le_of_ble_eq_true rfl) (Nat.le_of_ble_eq_true rfl) ?_
          obtain ⟨rfl, rfl⟩ := ret_inj hr
          exact ⟨rfl, hz⟩
set_option maxRecDepth 20000 in
set_option maxHeartbeats 4000000 in
theorem l_X14_findWindow {A : Nat → Nat → Nat → Nat} {q0 : Nat} {h : Hp} {σ ρ ρ' : Zs} {v : Int32} {x1 : Int32} {x2 : Int64} {x4 : Int32}  (hz : RpL A q0 h σ ρ) (hr : fX14_findWindow x1 x2 x4 ρ = some (v, ρ')) : ∀ l : Launch, Sp l mX14_findWindow 0 0 0 [.ref (A 14 0 0), .int x1, .long x2, .int x4] h ((QIL q0) A v σ ρ') X0 := by
  intro l
  refine Sp.of rfl rfl (lv := [(0, .ref (A 14 0 0)), (1, .int x1), (2, .long x2), (4, .int x4)]) (Nat.le_of_ble_eq_true rfl) rfl (fun x hf hrm => ?_)
  rw [fX14_findWindow.eq_1] at hr
  refine w_iconst 0 dX14_findWindow_0 rfl rfl ?_
  refine w_istore [(5, .int 0), (0, .ref (A 14 0 0)), (1, .int x1), (2, .long x2), (4, .int x4)] dX14_findWindow_1 rfl (by decide) rfl ?_
  refine w_lv [(0, .ref (A 14 0 0)), (1, .int x1), (2, .long x2), (4, .int x4), (5, .int 0)] [1, 2, 3, 4, 0] rfl ?_
  exact y_X14_findWindow_3 hf hrm   FU 0 _ _ hz  hr

set_option maxRecDepth 20000 in
set_option maxHeartbeats 4000000 in
theorem y_X14_worth_6 {A : Nat → Nat → Nat → Nat} {q0 : Nat} {σ ρ' : Zs} {v : Int64} {x : Cxt} {x1 : Int32} {x3 : Int32}  (hf : m_fin 0 0 ((QJL q0) A v σ ρ') X0 x) (hrm : m_rm 2 0 0 x)  : ∀ (n : Nat) (y4 : Int32) (y5 : Int32) (ρ : Zs) (h : Hp), RpL A q0 h σ ρ → fX14_worth_6 x1 1919 0 0 7 x3  n y4 y5 ρ = some (v, ρ') → wp x mX14_worth 6 [(0, .ref (A 14 0 0)), (1, .int x1), (2, .ref q0), (3, .int x3), (4, .int y4), (5, .int y5)] [] h 0 0
  | 0, _, _, ρ, h => fun hz hr => by
    rw [fX14_worth_6.eq_1] at hr
    exact nono hr
  | n + 1, y4, y5, ρ, h => fun hz hr => by
    rw [fX14_worth_6.eq_2] at hr
    refine w_aload_n 0 dX14_worth_6 rfl rfl rfl ?_
    have hv1 := hz.ww898 (p := 0) (s := 0) rfl
    refine g_X14_16 dX14_worth_7 rfl (hz.o14 rfl) (hz.rr898 rfl) ?_
    refine g_X14_235 dX14_worth_10 rfl (hz.o12 hv1) (hz.r786 hv1) ?_
    refine w_iload 5 dX14_worth_13 rfl rfl ?_
    obtain ⟨g2, hr⟩ := gd hr
    refine w_iald dX14_worth_15 rfl (hz.k786 hv1) (gin (hz.n786 hv1) g2) (hz.x786 hv1) ?_
    refine w_bipush 50 dX14_worth_16 rfl rfl ?_
    refine w_icmp_eq 212 dX14_worth_18 rfl rfl (fun q18 => ?_) (fun q18 => ?_)
    · have hr := bt q18 hr
      refine w_aload_n 0 dX14_worth_212 rfl rfl rfl ?_
      refine g_X14_79 dX14_worth_213 rfl (hz.o14 rfl) (hz.r932 rfl) ?_
      refine w_iconst 0 dX14_worth_216 rfl rfl ?_
      obtain ⟨g3, hr⟩ := gd hr
      refine w_lald dX14_worth_217 rfl (hz.k932 rfl) (gin (hz.n932 rfl) g3) (hz.x932 rfl) ?_
      refine w_lret hf dX14_worth_218 rfl (Nat.le_of_ble_eq_true rfl) (Nat.le_of_ble_eq_true rfl) ?_
      obtain ⟨rfl, rfl⟩ := ret_inj hr
      exact ⟨rfl, hz⟩
    · have hr := bf q18 hr
      refine w_aload_n 0 dX14_worth_21 rfl rfl rfl ?_
      have hv4 := hz.ww898 (p := 0) (s := 0) rfl
      refine g_X14_16 dX14_worth_22 rfl (hz.o14 rfl) (hz.rr898 rfl) ?_
      refine g_X14_235 dX14_worth_25 rfl (hz.o12 hv4) (hz.r786 hv4) ?_
      refine w_iload 5 dX14_worth_28 rfl rfl ?_
      obtain ⟨g5, hr⟩ := gd hr
      refine w_iald dX14_worth_30 rfl (hz.k786 hv4) (gin (hz.n786 hv4) g5) (hz.x786 hv4) ?_
      refine w_istore [(6, .int (zI ρ 1810 ((zR ρ 898 0 0 0).1) 0 (Int32.toNatClampNeg y5))), (0, .ref (A 14 0 0)), (1, .int x1), (2, .ref q0), (3, .int x3), (4, .int y4), (5, .int y5)] dX14_worth_31 rfl (by decide) rfl ?_
      refine w_iload 0 dX14_worth_33 rfl rfl ?_
      refine w_iconst 2 dX14_worth_35 rfl rfl ?_
      refine w_icmp_gt 99 dX14_worth_36 rfl rfl (fun q36 => ?_) (fun q36 => ?_)
      · have hr := bt q36 hr
        refine w_iload 0 dX14_worth_99 rfl rfl ?_
        refine w_bipush 40 dX14_worth_101 rfl rfl ?_
        refine w_icmp_lt 173 dX14_worth_103 rfl rfl (fun q103 => ?_) (fun q103 => ?_)
        · have hr := bt q103 hr
          refine w_iinc 5 (y4 + (-1)) [(4, .int (y4 + (-1))), (6, .int (zI ρ 1810 ((zR ρ 898 0 0 0).1) 0 (Int32.toNatClampNeg y5))), (0, .ref (A 14 0 0)), (1, .int x1), (2, .ref q0), (3, .int x3), (5, .int y5)] dX14_worth_173 rfl rfl rfl (by decide) rfl ?_
          refine w_aload_n 2 dX14_worth_176 rfl rfl rfl ?_
          refine g_X14_79 dX14_worth_177 rfl (hz.o14 rfl) (hz.r932 rfl) ?_
          refine w_iload 0 dX14_worth_180 rfl rfl ?_
          refine w_iconst 1 dX14_worth_182 rfl rfl ?_
          refine w_isub dX14_worth_183 rfl ?_
          refine w_iload 1 dX14_worth_184 rfl rfl ?_
          refine w_aload_n 2 dX14_worth_186 rfl rfl rfl ?_
          refine g_X14_79 dX14_worth_187 rfl (hz.o14 rfl) (hz.r932 rfl) ?_
          refine w_iload 0 dX14_worth_190 rfl rfl ?_
          refine w_iconst 1 dX14_worth_192 rfl rfl ?_
          refine w_isub dX14_worth_193 rfl ?_
          obtain ⟨g6, hr⟩ := gd hr
          refine w_lald dX14_worth_194 rfl (hz.k932 rfl) (gin (hz.n932 rfl) g6) (hz.x932 rfl) ?_
          refine w_aload_n 2 dX14_worth_195 rfl rfl rfl ?_
          refine g_X14_79 dX14_worth_196 rfl (hz.o14 rfl) (hz.r932 rfl) ?_
          refine w_iload 0 dX14_worth_199 rfl rfl ?_
          obtain ⟨g7, hr⟩ := gd hr
          refine w_lald dX14_worth_201 rfl (hz.k932 rfl) (gin (hz.n932 rfl) g7) (hz.x932 rfl) ?_
          obtain ⟨v8, ρ9, e10, hr⟩ := bq_some hr
          refine c_X14_462 (b := 0) (As := [.int (zI ρ 1810 ((zR ρ 898 0 0 0).1) 0 (Int32.toNatClampNeg y5)), .long (zJ ρ 1956 0 0 (Int32.toNatClampNeg ((y4 + (-1)) - 1))), .long (zJ ρ 1956 0 0 (Int32.toNatClampNeg (y4 + (-1))))]) (rest := [.int ((y4 + (-1)) - 1), .ref (A 1956 0 0)]) (fun l => l_X14_two  hz e10 l) hrm dX14_worth_202 rfl rfl (Nat.le_of_ble_eq_true rfl) (Nat.le_of_ble_eq_true rfl) (Nat.le_of_ble_eq_true rfl) rfl (Nat.le_of_ble_eq_true rfl) (fun vr h2 hq => ?_) (fun E9 h9 hq => hq.elim)
          obtain ⟨rfl, hz⟩ := hq
          show wp _ _ 205 [(4, .int (y4 + (-1))), (6, .int (zI ρ 1810 ((zR ρ 898 0 0 0).1) 0 (Int32.toNatClampNeg y5))), (0, .ref (A 14 0 0)), (1, .int x1), (2, .ref q0), (3, .int x3), (5, .int y5)] [.long v8, .int ((y4 + (-1)) - 1), .ref (A 1956 0 0)] _ _ _
          obtain ⟨g12, hr⟩ := gd hr
          refine w_last dX14_worth_205 rfl (hz.k932 rfl) (gin (hz.n932 rfl) g12) ?_
          obtain ⟨ρ13, e14, hr⟩ := lt_e hr
          have hz := (hz.s932 (i := (Int32.toNatClampNeg ((y4 + (-1)) - 1))) (v := v8) rfl).tr e14
          refine w_iinc 6 (y5 + 1) [(5, .int (y5 + 1)), (4, .int (y4 + (-1))), (6, .int (zI ρ 1810 ((zR ρ 898 0 0 0).1) 0 (Int32.toNatClampNeg y5))), (0, .ref (A 14 0 0)), (1, .int x1), (2, .ref q0), (3, .int x3)] dX14_worth_206 rfl rfl rfl (by decide) rfl ?_
          refine w_goto 6 dX14_worth_209 rfl ?_
          refine w_lv [(0, .ref (A 14 0 0)), (1, .int x1), (2, .ref q0), (3, .int x3), (4, .int (y4 + (-1))), (5, .int (y5 + 1))] [3, 4, 5, 6, 1, 0] rfl ?_
          exact y_X14_worth_6 hf hrm   n (y4 + (-1)) (y5 + 1) _ _ hz  hr
        · have hr := bf q103 hr
          refine w_aload_n 1 dX14_worth_106 rfl rfl rfl ?_
          refine g_X14_79 dX14_worth_107 rfl (hz.o14 rfl) (hz.r932 rfl) ?_
          refine w_iload 5 dX14_worth_110 rfl rfl ?_
          refine w_iconst 1 dX14_worth_112 rfl rfl ?_
          refine w_isub dX14_worth_113 rfl ?_
          obtain ⟨g15, hr⟩ := gd hr
          refine w_lald dX14_worth_114 rfl (hz.k932 rfl) (gin (hz.n932 rfl) g15) (hz.x932 rfl) ?_
          refine w_lstore [(7, .long (zJ ρ 1956 0 0 (Int32.toNatClampNeg (y4 - 1)))), (6, .int (zI ρ 1810 ((zR ρ 898 0 0 0).1) 0 (Int32.toNatClampNeg y5))), (0, .ref (A 14 0 0)), (1, .int x1), (2, .ref q0), (3, .int x3), (4, .int y4), (5, .int y5)] dX14_worth_115 rfl (by decide) rfl ?_
          refine w_aload_n 2 dX14_worth_117 rfl rfl rfl ?_
          refine g_X14_79 dX14_worth_118 rfl (hz.o14 rfl) (hz.r932 rfl) ?_
          refine w_iload 6 dX14_worth_121 rfl rfl ?_
          refine w_iconst 1 dX14_worth_123 rfl rfl ?_
          refine w_isub dX14_worth_124 rfl ?_
          refine w_iload 1 dX14_worth_125 rfl rfl ?_
          refine w_bipush 40 dX14_worth_127 rfl rfl ?_
          refine w_icmp_ne 147 dX14_worth_129 rfl rfl (fun q129 => ?_) (fun q129 => ?_)
          · have hr := bf q129 hr
            refine w_iload 1 dX14_worth_147 rfl rfl ?_
            refine w_bipush 41 dX14_worth_149 rfl rfl ?_
            refine w_icmp_eq 161 dX14_worth_151 rfl rfl (fun q151 => ?_) (fun q151 => ?_)
            · have hr := bt q151 hr
              refine w_lload 0 dX14_worth_161 rfl rfl ?_
              refine w_lneg dX14_worth_163 rfl ?_
              refine w_goto 169 dX14_worth_164 rfl ?_
              obtain ⟨g16, hr⟩ := gd hr
              refine w_last dX14_worth_169 rfl (hz.k932 rfl) (gin (hz.n932 rfl) g16) ?_
              obtain ⟨ρ17, e18, hr⟩ := lt_e hr
              have hz := (hz.s932 (i := (Int32.toNatClampNeg (y4 - 1))) (v := (-(zJ ρ 1956 0 0 (Int32.toNatClampNeg (y4 - 1))))) rfl).tr e18
              refine w_goto 206 dX14_worth_170 rfl ?_
              refine w_iinc 7 (y5 + 1) [(5, .int (y5 + 1)), (7, .long (zJ ρ 1956 0 0 (Int32.toNatClampNeg (y4 - 1)))), (6, .int (zI ρ 1810 ((zR ρ 898 0 0 0).1) 0 (Int32.toNatClampNeg y5))), (0, .ref (A 14 0 0)), (1, .int x1), (2, .ref q0), (3, .int x3), (4, .int y4)] dX14_worth_206 rfl rfl rfl (by decide) rfl ?_
              refine w_goto 6 dX14_worth_209 rfl ?_
              refine w_lv [(0, .ref (A 14 0 0)), (1, .int x1), (2, .ref q0), (3, .int x3), (4, .int y4), (5, .int (y5 + 1))] [3, 4, 5, 6, 7, 0] rfl ?_
              exact y_X14_worth_6 hf hrm   n y4 (y5 + 1) _ _ hz  hr
            · have hr := bf q151 hr
              refine w_lload 0 dX14_worth_154 rfl rfl ?_
              refine w_lconst 0 dX14_worth_156 rfl rfl ?_
              refine w_lcmp dX14_worth_157 rfl ?_
              refine w_if_ge 167 dX14_worth_158 rfl rfl (fun q158 => ?_) (fun q158 => ?_)
              · have hr := bt q158 hr
                refine w_lload 0 dX14_worth_167 rfl rfl ?_
                obtain ⟨g19, hr⟩ := gd hr
                refine w_last dX14_worth_169 rfl (hz.k932 rfl) (gin (hz.n932 rfl) g19) ?_
                obtain ⟨ρ20, e21, hr⟩ := lt_e hr
                have hz := (hz.s932 (i := (Int32.toNatClampNeg (y4 - 1))) (v := (zJ ρ 1956 0 0 (Int32.toNatClampNeg (y4 - 1)))) rfl).tr e21
                refine w_goto 206 dX14_worth_170 rfl ?_
                refine w_iinc 7 (y5 + 1) [(5, .int (y5 + 1)), (7, .long (zJ ρ 1956 0 0 (Int32.toNatClampNeg (y4 - 1)))), (6, .int (zI ρ 1810 ((zR ρ 898 0 0 0).1) 0 (Int32.toNatClampNeg y5))), (0, .ref (A 14 0 0)), (1, .int x1), (2, .ref q0), (3, .int x3), (4, .int y4)] dX14_worth_206 rfl rfl rfl (by decide) rfl ?_
                refine w_goto 6 dX14_worth_209 rfl ?_
                refine w_lv [(0, .ref (A 14 0 0)), (1, .int x1), (2, .ref q0), (3, .int x3), (4, .int y4), (5, .int (y5 + 1))] [3, 4, 5, 6, 7, 0] rfl ?_
                exact y_X14_worth_6 hf hrm   n y4 (y5 + 1) _ _ hz  hr
              · have hr := bf q158 hr
                refine w_lload 0 dX14_worth_161 rfl rfl ?_
                refine w_lneg dX14_worth_163 rfl ?_
                refine w_goto 169 dX14_worth_164 rfl ?_
                obtain ⟨g22, hr⟩ := gd hr
                refine w_last dX14_worth_169 rfl (hz.k932 rfl) (gin (hz.n932 rfl) g22) ?_
                obtain ⟨ρ23, e24, hr⟩ := lt_e hr
                have hz := (hz.s932 (i := (Int32.toNatClampNeg (y4 - 1))) (v := (-(zJ ρ 1956 0 0 (Int32.toNatClampNeg (y4 - 1))))) rfl).tr e24
                refine w_goto 206 dX14_worth_170 rfl ?_
                refine w_iinc 7 (y5 + 1) [(5, .int (y5 + 1)), (7, .long (zJ ρ 1956 0 0 (Int32.toNatClampNeg (y4 - 1)))), (6, .int (zI ρ 1810 ((zR ρ 898 0 0 0).1) 0 (Int32.toNatClampNeg y5))), (0, .ref (A 14 0 0)), (1, .int x1), (2, .ref q0), (3, .int x3), (4, .int y4)] dX14_worth_206 rfl rfl rfl (by decide) rfl ?_
                refine w_goto 6 dX14_worth_209 rfl ?_
                refine w_lv [(0, .ref (A 14 0 0)), (1, .int x1), (2, .ref q0), (3, .int x3), (4, .int y4), (5, .int (y5 + 1))] [3, 4, 5, 6, 7, 0] rfl ?_
                exact y_X14_worth_6 hf hrm   n y4 (y5 + 1) _ _ hz  hr
          · have hr := bt q129 hr
            refine w_lload 0 dX14_worth_132 rfl rfl ?_
            refine w_lconst 0 dX14_worth_134 rfl rfl ?_
            refine w_lcmp dX14_worth_135 rfl ?_
            refine w_if_ne 143 dX14_worth_136 rfl rfl (fun q136 => ?_) (fun q136 => ?_)
            · have hr := bf q136 hr
              refine w_lconst 0 dX14_worth_143 rfl rfl ?_
              refine w_goto 169 dX14_worth_144 rfl ?_
              obtain ⟨g25, hr⟩ := gd hr
              refine w_last dX14_worth_169 rfl (hz.k932 rfl) (gin (hz.n932 rfl) g25) ?_
              obtain ⟨ρ26, e27, hr⟩ := lt_e hr
              have hz := (hz.s932 (i := (Int32.toNatClampNeg (y4 - 1))) (v := 0) rfl).tr e27
              refine w_goto 206 dX14_worth_170 rfl ?_
              refine w_iinc 7 (y5 + 1) [(5, .int (y5 + 1)), (7, .long (zJ ρ 1956 0 0 (Int32.toNatClampNeg (y4 - 1)))), (6, .int (zI ρ 1810 ((zR ρ 898 0 0 0).1) 0 (Int32.toNatClampNeg y5))), (0, .ref (A 14 0 0)), (1, .int x1), (2, .ref q0), (3, .int x3), (4, .int y4)] dX14_worth_206 rfl rfl rfl (by decide) rfl ?_
              refine w_goto 6 dX14_worth_209 rfl ?_
              refine w_lv [(0, .ref (A 14 0 0)), (1, .int x1), (2, .ref q0), (3, .int x3), (4, .int y4), (5, .int (y5 + 1))] [3, 4, 5, 6, 7, 0] rfl ?_
              exact y_X14_worth_6 hf hrm   n y4 (y5 + 1) _ _ hz  hr
            · have hr := bt q136 hr
              refine w_lconst 1 dX14_worth_139 rfl rfl ?_
              refine w_goto 169 dX14_worth_140 rfl ?_
              obtain ⟨g28, hr⟩ := gd hr
              refine w_last dX14_worth_169 rfl (hz.k932 rfl) (gin (hz.n932 rfl) g28) ?_
              obtain ⟨ρ29, e30, hr⟩ := lt_e hr
              have hz := (hz.s932 (i := (Int32.toNatClampNeg (y4 - 1))) (v := 1) rfl).tr e30
              refine w_goto 206 dX14_worth_170 rfl ?_
              refine w_iinc 7 (y5 + 1) [(5, .int (y5 + 1)), (7, .long (zJ ρ 1956 0 0 (Int32.toNatClampNeg (y4 - 1)))), (6, .int (zI ρ 1810 ((zR ρ 898 0 0 0).1) 0 (Int32.toNatClampNeg y5))), (0, .ref (A 14 0 0)), (1, .int x1), (2, .ref q0), (3, .int x3), (4, .int y4)] dX14_worth_206 rfl rfl rfl (by decide) rfl ?_
              refine w_goto 6 dX14_worth_209 rfl ?_
              refine w_lv [(0, .ref (A 14 0 0)), (1, .int x1), (2, .ref q0), (3, .int x3), (4, .int y4), (5, .int (y5 + 1))] [3, 4, 5, 6, 7, 0] rfl ?_
              exact y_X14_worth_6 hf hrm   n y4 (y5 + 1) _ _ hz  hr
      · have hr := bf q36 hr
        refine w_aload_n 1 dX14_worth_39 rfl rfl rfl ?_
        refine g_X14_79 dX14_worth_40 rfl (hz.o14 rfl) (hz.r932 rfl) ?_
        refine w_iload 5 dX14_worth_43 rfl rfl ?_
        refine w_iload 0 dX14_worth_45 rfl rfl ?_
        refine w_if_ne 63 dX14_worth_47 rfl rfl (fun q47 => ?_) (fun q47 => ?_)
        · have hr := bf q47 hr
          refine w_iload 0 dX14_worth_63 rfl rfl ?_
          refine w_iconst 2 dX14_worth_65 rfl rfl ?_
          refine w_icmp_ne 75 dX14_worth_66 rfl rfl (fun q66 => ?_) (fun q66 => ?_)
          · have hr := bf q66 hr
            refine w_aload_n 3 dX14_worth_75 rfl rfl rfl ?_
            refine w_iload_n 4 dX14_worth_76 rfl rfl rfl ?_
            refine w_iconst 1 dX14_worth_77 rfl rfl ?_
            refine w_iadd dX14_worth_78 rfl ?_
            refine w_aload_n 1 dX14_worth_79 rfl rfl rfl ?_
            have hv31 := hz.ww898 (p := 0) (s := 0) rfl
            refine g_X14_16 dX14_worth_80 rfl (hz.o14 rfl) (hz.rr898 rfl) ?_
            refine g_X14_241 dX14_worth_83 rfl (hz.o12 hv31) (hz.r787 hv31) ?_
            refine w_iload 6 dX14_worth_86 rfl rfl ?_
            obtain ⟨g32, hr⟩ := gd hr
            refine w_lald dX14_worth_88 rfl (hz.k787 hv31) (gin (hz.n787 hv31) g32) (hz.x787 hv31) ?_
            refine w_l2i dX14_worth_89 rfl ?_
            refine w_iadd dX14_worth_90 rfl ?_
            obtain ⟨g33, hr⟩ := gd hr
            refine w_lald dX14_worth_91 rfl hz.tk (gin hz.tn g33) hz.ty ?_
            obtain ⟨g34, hr⟩ := gd hr
            refine w_last dX14_worth_92 rfl (hz.k932 rfl) (gin (hz.n932 rfl) g34) ?_
            obtain ⟨ρ35, e36, hr⟩ := lt_e hr
            have hz := (hz.s932 (i := (Int32.toNatClampNeg y4)) (v := (zJ ρ 1919 0 0 (Int32.toNatClampNeg ((x3 + 1) + (((zJ ρ 1811 ((zR ρ 898 0 0 0).1) 0 (Int32.toNatClampNeg y5)) : Int64).toInt32))))) rfl).tr e36
            refine w_iinc 5 (y4 + 1) [(4, .int (y4 + 1)), (6, .int (zI ρ 1810 ((zR ρ 898 0 0 0).1) 0 (Int32.toNatClampNeg y5))), (0, .ref (A 14 0 0)), (1, .int x1), (2, .ref q0), (3, .int x3), (5, .int y5)] dX14_worth_93 rfl rfl rfl (by decide) rfl ?_
            refine w_goto 206 dX14_worth_96 rfl ?_
            refine w_iinc 6 (y5 + 1) [(5, .int (y5 + 1)), (4, .int (y4 + 1)), (6, .int (zI ρ 1810 ((zR ρ 898 0 0 0).1) 0 (Int32.toNatClampNeg y5))), (0, .ref (A 14 0 0)), (1, .int x1), (2, .ref q0), (3, .int x3)] dX14_worth_206 rfl rfl rfl (by decide) rfl ?_
            refine w_goto 6 dX14_worth_209 rfl ?_
            refine w_lv [(0, .ref (A 14 0 0)), (1, .int x1), (2, .ref q0), (3, .int x3), (4, .int (y4 + 1)), (5, .int (y5 + 1))] [3, 4, 5, 6, 1, 0] rfl ?_
            exact y_X14_worth_6 hf hrm   n (y4 + 1) (y5 + 1) _ _ hz  hr
          · have hr := bt q66 hr
            refine w_aload_n 3 dX14_worth_69 rfl rfl rfl ?_
            refine w_iload_n 4 dX14_worth_70 rfl rfl rfl ?_
            obtain ⟨g37, hr⟩ := gd hr
            refine w_lald dX14_worth_71 rfl hz.tk (gin hz.tn g37) hz.ty ?_
            refine w_goto 92 dX14_worth_72 rfl ?_
            obtain ⟨g38, hr⟩ := gd hr
            refine w_last dX14_worth_92 rfl (hz.k932 rfl) (gin (hz.n932 rfl) g38) ?_
            obtain ⟨ρ39, e40, hr⟩ := lt_e hr
            have hz := (hz.s932 (i := (Int32.toNatClampNeg y4)) (v := (zJ ρ 1919 0 0 (Int32.toNatClampNeg x3))) rfl).tr e40
            refine w_iinc 5 (y4 + 1) [(4, .int (y4 + 1)), (6, .int (zI ρ 1810 ((zR ρ 898 0 0 0).1) 0 (Int32.toNatClampNeg y5))), (0, .ref (A 14 0 0)), (1, .int x1), (2, .ref q0), (3, .int x3), (5, .int y5)] dX14_worth_93 rfl rfl rfl (by decide) rfl ?_
            refine w_goto 206 dX14_worth_96 rfl ?_
            refine w_iinc 6 (y5 + 1) [(5, .int (y5 + 1)), (4, .int (y4 + 1)), (6, .int (zI ρ 1810 ((zR ρ 898 0 0 0).1) 0 (Int32.toNatClampNeg y5))), (0, .ref (A 14 0 0)), (1, .int x1), (2, .ref q0), (3, .int x3)] dX14_worth_206 rfl rfl rfl (by decide) rfl ?_
            refine w_goto 6 dX14_worth_209 rfl ?_
            refine w_lv [(0, .ref (A 14 0 0)), (1, .int x1), (2, .ref q0), (3, .int x3), (4, .int (y4 + 1)), (5, .int (y5 + 1))] [3, 4, 5, 6, 1, 0] rfl ?_
            exact y_X14_worth_6 hf hrm   n (y4 + 1) (y5 + 1) _ _ hz  hr
        · have hr := bt q47 hr
          refine w_aload_n 1 dX14_worth_50 rfl rfl rfl ?_
          have hv41 := hz.ww898 (p := 0) (s := 0) rfl
          refine g_X14_16 dX14_worth_51 rfl (hz.o14 rfl) (hz.rr898 rfl) ?_
          refine g_X14_241 dX14_worth_54 rfl (hz.o12 hv41) (hz.r787 hv41) ?_
          refine w_iload 6 dX14_worth_57 rfl rfl ?_
          obtain ⟨g42, hr⟩ := gd hr
          refine w_lald dX14_worth_59 rfl (hz.k787 hv41) (gin (hz.n787 hv41) g42) (hz.x787 hv41) ?_
          refine w_goto 92 dX14_worth_60 rfl ?_
          obtain ⟨g43, hr⟩ := gd hr
          refine w_last dX14_worth_92 rfl (hz.k932 rfl) (gin (hz.n932 rfl) g43) ?_
          obtain ⟨ρ44, e45, hr⟩ := lt_e hr
          have hz := (hz.s932 (i := (Int32.toNatClampNeg y4)) (v := (zJ ρ 1811 ((zR ρ 898 0 0 0).1) 0 (Int32.toNatClampNeg y5))) rfl).tr e45
          refine w_iinc 5 (y4 + 1) [(4, .int (y4 + 1)), (6, .int (zI ρ 1810 ((zR ρ 898 0 0 0).1) 0 (Int32.toNatClampNeg y5))), (0, .ref (A 14 0 0)), (1, .int x1), (2, .ref q0), (3, .int x3), (5, .int y5)] dX14_worth_93 rfl rfl rfl (by decide) rfl ?_
          refine w_goto 206 dX14_worth_96 rfl ?_
          refine w_iinc 6 (y5 + 1) [(5, .int (y5 + 1)), (4, .int (y4 + 1)), (6, .int (zI ρ 1810 ((zR ρ 898 0 0 0).1) 0 (Int32.toNatClampNeg y5))), (0, .ref (A 14 0 0)), (1, .int x1), (2, .ref q0), (3, .int x3)] dX14_worth_206 rfl rfl rfl (by decide) rfl ?_
          refine w_goto 6 dX14_worth_209 rfl ?_
          refine w_lv [(0, .ref (A 14 0 0)), (1, .int x1), (2, .ref q0), (3, .int x3), (4, .int (y4 + 1)), (5, .int (y5 + 1))] [3, 4, 5, 6, 1, 0] rfl ?_
          exact y_X14_worth_6 hf hrm   n (y4 + 1) (y5 + 1) _ _ hz  hr
set_option maxRecDepth 20000 in
set_option maxHeartbeats 4000000 in
theorem l_X14_worth {A : Nat → Nat → Nat → Nat} {q0 : Nat} {h : Hp} {σ ρ ρ' : Zs} {v : Int64} {x1 : Int32} {x3 : Int32}  (hz : RpL A q0 h σ ρ) (hr : fX14_worth x1 1919 0 0 7 x3 ρ = some (v, ρ')) : ∀ l : Launch, Sp l mX14_worth 2 0 0 [.ref (A 14 0 0), .int x1, .ref q0, .int x3] h ((QJL q0) A v σ ρ') X0 := by
  intro l
  refine Sp.of rfl rfl (lv := [(0, .ref (A 14 0 0)), (1, .int x1), (2, .ref q0), (3, .int x3)]) (Nat.le_of_ble_eq_true rfl) rfl (fun x hf hrm => ?_)
  rw [fX14_worth.eq_1] at hr
  refine w_iconst 0 dX14_worth_0 rfl rfl ?_
  refine w_istore [(4, .int 0), (0, .ref (A 14 0 0)), (1, .int x1), (2, .ref q0), (3, .int x3)] dX14_worth_1 rfl (by decide) rfl ?_
  refine w_iload_n 2 dX14_worth_3 rfl rfl rfl ?_
  refine w_istore [(5, .int x1), (4, .int 0), (0, .ref (A 14 0 0)), (1, .int x1), (2, .ref q0), (3, .int x3)] dX14_worth_4 rfl (by decide) rfl ?_
  refine w_lv [(0, .ref (A 14 0 0)), (1, .int x1), (2, .ref q0), (3, .int x3), (4, .int 0), (5, .int x1)] [2, 3, 4, 5, 1, 0] rfl ?_
  exact y_X14_worth_6 hf hrm   FU 0 x1 _ _ hz  hr

set_option maxRecDepth 20000 in
set_option maxHeartbeats 4000000 in
theorem y_X14_putIn_257 {A : Nat → Nat → Nat → Nat} {q0 : Nat} {σ ρ' : Zs} {v : Int32} {x : Cxt} {x1 : Int32} {x3 : Int32} {x4 : Int32} {x5 : Int32} {k161 : Int32 → Int32 → Int32 → Zs → Option (Int32 × Zs)}  (hf : m_fin 0 0 ((QIL q0) A v σ ρ') X0 x) (hrm : m_rm 3 0 0 x)  (hk161 : ∀ (y8 : Int32) (y9 : Int32) (y10 : Int32) (ρ : Zs) (h : Hp), RpL A q0 h σ ρ → k161 y8 y9 y10 ρ = some (v, ρ') → wp x mX14_putIn 161 [(0, .ref (A 14 0 0)), (1, .int x1), (2, .ref q0), (3, .int x3), (4, .int x4), (5, .int x5), (8, .int y8), (9, .int y9), (10, .int y10)] [] h 0 0) : ∀ (y8 : Int32) (y9 : Int32) (y10 : Int32) (y11 : Int32) (y12 : Int32) (y13 : Int64) (z0 : Int64) (ρ : Zs) (h : Hp), RpL A q0 h σ ρ → fX14_putIn_257 x1 1919 0 0 7 x3 x4 x5 k161 y8 y9 y10 y11 y12 y13 z0 ρ = some (v, ρ') → wp x mX14_putIn 257 [(0, .ref (A 14 0 0)), (1, .int x1), (2, .ref q0), (3, .int x3), (4, .int x4), (5, .int x5), (8, .int y8), (9, .int y9), (10, .int y10), (11, .int y11), (12, .int y12), (13, .long y13)] [.long z0] h 0 0 := by
  intro y8 y9 y10 y11 y12 y13 z0 ρ h hz hr
  rw [fX14_putIn_257.eq_1] at hr
  refine w_lstore [(15, .long z0), (0, .ref (A 14 0 0)), (1, .int x1), (2, .ref q0), (3, .int x3), (4, .int x4), (5, .int x5), (8, .int y8), (9, .int y9), (10, .int y10), (11, .int y11), (12, .int y12), (13, .long y13)] dX14_putIn_257 rfl (by decide) rfl ?_
  refine w_iload 10 dX14_putIn_259 rfl rfl ?_
  refine w_bipush 23 dX14_putIn_261 rfl rfl ?_
  refine w_icmp_eq 273 dX14_putIn_263 rfl rfl (fun q263 => ?_) (fun q263 => ?_)
  · have hr := bt q263 hr
    refine w_aload_n 1 dX14_putIn_273 rfl rfl rfl ?_
    refine g_X14_98 dX14_putIn_274 rfl (hz.o14 rfl) (hz.r938 rfl) ?_
    refine w_iload 11 dX14_putIn_277 rfl rfl ?_
    refine w_lload 0 dX14_putIn_279 rfl rfl ?_
    refine w_lload 12 dX14_putIn_281 rfl rfl ?_
    refine w_ladd dX14_putIn_283 rfl ?_
    obtain ⟨g24, hr⟩ := gd hr
    refine w_last dX14_putIn_284 rfl (hz.k938 rfl) (gin (hz.n938 rfl) g24) ?_
    obtain ⟨ρ25, e26, hr⟩ := lt_e hr
    have hz := (hz.s938 (i := (Int32.toNatClampNeg y12)) (v := (z0 + y13)) rfl).tr e26
    refine w_goto 343 dX14_putIn_285 rfl ?_
    refine w_iinc 9 (y10 + 1) [(10, .int (y10 + 1)), (15, .long z0), (0, .ref (A 14 0 0)), (1, .int x1), (2, .ref q0), (3, .int x3), (4, .int x4), (5, .int x5), (8, .int y8), (9, .int y9), (11, .int y11), (12, .int y12), (13, .long y13)] dX14_putIn_343 rfl rfl rfl (by decide) rfl ?_
    refine w_goto 161 dX14_putIn_346 rfl ?_
    refine w_lv [(0, .ref (A 14 0 0)), (1, .int x1), (2, .ref q0), (3, .int x3), (4, .int x4), (5, .int x5), (8, .int y8), (9, .int y9), (10, .int (y10 + 1))] [2, 3, 4, 5, 6, 7, 8, 9, 0] rfl ?_
    exact hk161 y8 y9 (y10 + 1) _ _ hz  hr
  · have hr := bf q263 hr
    refine w_iload 10 dX14_putIn_266 rfl rfl ?_
    refine w_bipush 22 dX14_putIn_268 rfl rfl ?_
    refine w_icmp_ne 288 dX14_putIn_270 rfl rfl (fun q270 => ?_) (fun q270 => ?_)
    · have hr := bf q270 hr
      refine w_iload 8 dX14_putIn_288 rfl rfl ?_
      refine w_if_ne 300 dX14_putIn_290 rfl rfl (fun q290 => ?_) (fun q290 => ?_)
      · have hr := bf q290 hr
        refine w_aload_n 1 dX14_putIn_300 rfl rfl rfl ?_
        refine g_X14_98 dX14_putIn_301 rfl (hz.o14 rfl) (hz.r938 rfl) ?_
        refine w_iload 11 dX14_putIn_304 rfl rfl ?_
        refine w_lload 12 dX14_putIn_306 rfl rfl ?_
        obtain ⟨g27, hr⟩ := gd hr
        refine w_last dX14_putIn_308 rfl (hz.k938 rfl) (gin (hz.n938 rfl) g27) ?_
        obtain ⟨ρ28, e29, hr⟩ := lt_e hr
        have hz := (hz.s938 (i := (Int32.toNatClampNeg y12)) (v := y13) rfl).tr e29
        refine w_goto 343 dX14_putIn_309 rfl ?_
        refine w_iinc 9 (y10 + 1) [(10, .int (y10 + 1)), (15, .long z0), (0, .ref (A 14 0 0)), (1, .int x1), (2, .ref q0), (3, .int x3), (4, .int x4), (5, .int x5), (8, .int y8), (9, .int y9), (11, .int y11), (12, .int y12), (13, .long y13)] dX14_putIn_343 rfl rfl rfl (by decide) rfl ?_
        refine w_goto 161 dX14_putIn_346 rfl ?_
        refine w_lv [(0, .ref (A 14 0 0)), (1, .int x1), (2, .ref q0), (3, .int x3), (4, .int x4), (5, .int x5), (8, .int y8), (9, .int y9), (10, .int (y10 + 1))] [2, 3, 4, 5, 6, 7, 8, 9, 0] rfl ?_
        exact hk161 y8 y9 (y10 + 1) _ _ hz  hr
      · have hr := bt q290 hr
        refine w_iload 10 dX14_putIn_293 rfl rfl ?_
        refine w_bipush 26 dX14_putIn_295 rfl rfl ?_
        refine w_icmp_ne 312 dX14_putIn_297 rfl rfl (fun q297 => ?_) (fun q297 => ?_)
        · have hr := bf q297 hr
          refine w_aload_n 1 dX14_putIn_312 rfl rfl rfl ?_
          refine g_X14_98 dX14_putIn_313 rfl (hz.o14 rfl) (hz.r938 rfl) ?_
          refine w_iload 11 dX14_putIn_316 rfl rfl ?_
          refine w_iload 10 dX14_putIn_318 rfl rfl ?_
          refine w_bipush 24 dX14_putIn_320 rfl rfl ?_
          refine w_icmp_ne 335 dX14_putIn_322 rfl rfl (fun q322 => ?_) (fun q322 => ?_)
          · have hr := bf q322 hr
            refine w_lload 0 dX14_putIn_335 rfl rfl ?_
            refine w_lload 12 dX14_putIn_337 rfl rfl ?_
            refine w_mlmax hrm (by decide) dX14_putIn_339 rfl ml_X14_466 (Nat.le_of_ble_eq_true rfl) (Nat.le_of_ble_eq_true rfl) (Nat.le_of_ble_eq_true rfl) ?_
            obtain ⟨g30, hr⟩ := gd hr
            refine w_last dX14_putIn_342 rfl (hz.k938 rfl) (gin (hz.n938 rfl) g30) ?_
            obtain ⟨ρ31, e32, hr⟩ := lt_e hr
            have hz := (hz.s938 (i := (Int32.toNatClampNeg y12)) (v := (p_lmax z0 y13)) rfl).tr e32
            refine w_iinc 9 (y10 + 1) [(10, .int (y10 + 1)), (15, .long z0), (0, .ref (A 14 0 0)), (1, .int x1), (2, .ref q0), (3, .int x3), (4, .int x4), (5, .int x5), (8, .int y8), (9, .int y9), (11, .int y11), (12, .int y12), (13, .long y13)] dX14_putIn_343 rfl rfl rfl (by decide) rfl ?_
            refine w_goto 161 dX14_putIn_346 rfl ?_
            refine w_lv [(0, .ref (A 14 0 0)), (1, .int x1), (2, .ref q0), (3, .int x3), (4, .int x4), (5, .int x5), (8, .int y8), (9, .int y9), (10, .int (y10 + 1))] [2, 3, 4, 5, 6, 7, 8, 9, 0] rfl ?_
            exact hk161 y8 y9 (y10 + 1) _ _ hz  hr
          · have hr := bt q322 hr
            refine w_lload 0 dX14_putIn_325 rfl rfl ?_
            refine w_lload 12 dX14_putIn_327 rfl rfl ?_
            refine w_mlmin hrm (by decide) dX14_putIn_329 rfl ml_X14_307 (Nat.le_of_ble_eq_true rfl) (Nat.le_of_ble_eq_true rfl) (Nat.le_of_ble_eq_true rfl) ?_
            refine w_goto 342 dX14_putIn_332 rfl ?_
            obtain ⟨g33, hr⟩ := gd hr
            refine w_last dX14_putIn_342 rfl (hz.k938 rfl) (gin (hz.n938 rfl) g33) ?_
            obtain ⟨ρ34, e35, hr⟩ := lt_e hr
            have hz := (hz.s938 (i := (Int32.toNatClampNeg y12)) (v := (p_lmin z0 y13)) rfl).tr e35
            refine w_iinc 9 (y10 + 1) [(10, .int (y10 + 1)), (15, .long z0), (0, .ref (A 14 0 0)), (1, .int x1), (2, .ref q0), (3, .int x3), (4, .int x4), (5, .int x5), (8, .int y8), (9, .int y9), (11, .int y11), (12, .int y12), (13, .long y13)] dX14_putIn_343 rfl rfl rfl (by decide) rfl ?_
            refine w_goto 161 dX14_putIn_346 rfl ?_
            refine w_lv [(0, .ref (A 14 0 0)), (1, .int x1), (2, .ref q0), (3, .int x3), (4, .int x4), (5, .int x5), (8, .int y8), (9, .int y9), (10, .int (y10 + 1))] [2, 3, 4, 5, 6, 7, 8, 9, 0] rfl ?_
            exact hk161 y8 y9 (y10 + 1) _ _ hz  hr
        · have hr := bt q297 hr
          refine w_aload_n 1 dX14_putIn_300 rfl rfl rfl ?_
          refine g_X14_98 dX14_putIn_301 rfl (hz.o14 rfl) (hz.r938 rfl) ?_
          refine w_iload 11 dX14_putIn_304 rfl rfl ?_
          refine w_lload 12 dX14_putIn_306 rfl rfl ?_
          obtain ⟨g36, hr⟩ := gd hr
          refine w_last dX14_putIn_308 rfl (hz.k938 rfl) (gin (hz.n938 rfl) g36) ?_
          obtain ⟨ρ37, e38, hr⟩ := lt_e hr
          have hz := (hz.s938 (i := (Int32.toNatClampNeg y12)) (v := y13) rfl).tr e38
          refine w_goto 343 dX14_putIn_309 rfl ?_
          refine w_iinc 9 (y10 + 1) [(10, .int (y10 + 1)), (15, .long z0), (0, .ref (A 14 0 0)), (1, .int x1), (2, .ref q0), (3, .int x3), (4, .int x4), (5, .int x5), (8, .int y8), (9, .int y9), (11, .int y11), (12, .int y12), (13, .long y13)] dX14_putIn_343 rfl rfl rfl (by decide) rfl ?_
          refine w_goto 161 dX14_putIn_346 rfl ?_
          refine w_lv [(0, .ref (A 14 0 0)), (1, .int x1), (2, .ref q0), (3, .int x3), (4, .int x4), (5, .int x5), (8, .int y8), (9, .int y9), (10, .int (y10 + 1))] [2, 3, 4, 5, 6, 7, 8, 9, 0] rfl ?_
          exact hk161 y8 y9 (y10 + 1) _ _ hz  hr
    · have hr := bt q270 hr
      refine w_aload_n 1 dX14_putIn_273 rfl rfl rfl ?_
      refine g_X14_98 dX14_putIn_274 rfl (hz.o14 rfl) (hz.r938 rfl) ?_
      refine w_iload 11 dX14_putIn_277 rfl rfl ?_
      refine w_lload 0 dX14_putIn_279 rfl rfl ?_
      refine w_lload 12 dX14_putIn_281 rfl rfl ?_
      refine w_ladd dX14_putIn_283 rfl ?_
      obtain ⟨g39, hr⟩ := gd hr
      refine w_last dX14_putIn_284 rfl (hz.k938 rfl) (gin (hz.n938 rfl) g39) ?_
      obtain ⟨ρ40, e41, hr⟩ := lt_e hr
      have hz := (hz.s938 (i := (Int32.toNatClampNeg y12)) (v := (z0 + y13)) rfl).tr e41
      refine w_goto 343 dX14_putIn_285 rfl ?_
      refine w_iinc 9 (y10 + 1) [(10, .int (y10 + 1)), (15, .long z0), (0, .ref (A 14 0 0)), (1, .int x1), (2, .ref q0), (3, .int x3), (4, .int x4), (5, .int x5), (8, .int y8), (9, .int y9), (11, .int y11), (12, .int y12), (13, .long y13)] dX14_putIn_343 rfl rfl rfl (by decide) rfl ?_
      refine w_goto 161 dX14_putIn_346 rfl ?_
      refine w_lv [(0, .ref (A 14 0 0)), (1, .int x1), (2, .ref q0), (3, .int x3), (4, .int x4), (5, .int x5), (8, .int y8), (9, .int y9), (10, .int (y10 + 1))] [2, 3, 4, 5, 6, 7, 8, 9, 0] rfl ?_
      exact hk161 y8 y9 (y10 + 1) _ _ hz  hr
set_option maxRecDepth 20000 in
set_option maxHeartbeats 4000000 in
theorem y_X14_putIn_161 {A : Nat → Nat → Nat → Nat} {q0 : Nat} {σ ρ' : Zs} {v : Int32} {x : Cxt} {x1 : Int32} {x3 : Int32} {x4 : Int32} {x5 : Int32}  (hf : m_fin 0 0 ((QIL q0) A v σ ρ') X0 x) (hrm : m_rm 3 0 0 x)  : ∀ (n : Nat) (y8 : Int32) (y9 : Int32) (y10 : Int32) (ρ : Zs) (h : Hp), RpL A q0 h σ ρ → fX14_putIn_161 x1 1919 0 0 7 x3 x4 x5  n y8 y9 y10 ρ = some (v, ρ') → wp x mX14_putIn 161 [(0, .ref (A 14 0 0)), (1, .int x1), (2, .ref q0), (3, .int x3), (4, .int x4), (5, .int x5), (8, .int y8), (9, .int y9), (10, .int y10)] [] h 0 0
  | 0, _, _, _, ρ, h => fun hz hr => by
    rw [fX14_putIn_161.eq_1] at hr
    exact nono hr
  | n + 1, y8, y9, y10, ρ, h => fun hz hr => by
    rw [fX14_putIn_161.eq_2] at hr
    refine w_iload 8 dX14_putIn_161 rfl rfl ?_
    refine w_aload_n 0 dX14_putIn_163 rfl rfl rfl ?_
    have hv13 := hz.ww898 (p := 0) (s := 0) rfl
    refine g_X14_16 dX14_putIn_164 rfl (hz.o14 rfl) (hz.rr898 rfl) ?_
    refine g_X14_292 dX14_putIn_167 rfl (hz.o12 hv13) (hz.r771 hv13) ?_
    refine w_iload_n 1 dX14_putIn_170 rfl rfl rfl ?_
    obtain ⟨g14, hr⟩ := gd hr
    refine w_iald dX14_putIn_171 rfl (hz.k771 hv13) (gin (hz.n771 hv13) g14) (hz.x771 hv13) ?_
    refine w_icmp_ge 349 dX14_putIn_172 rfl rfl (fun q172 => ?_) (fun q172 => ?_)
    · have hr := bt q172 hr
      refine w_iload 6 dX14_putIn_349 rfl rfl ?_
      refine w_iret hf dX14_putIn_351 rfl (Nat.le_of_ble_eq_true rfl) (Nat.le_of_ble_eq_true rfl) ?_
      obtain ⟨rfl, rfl⟩ := ret_inj hr
      exact ⟨rfl, hz⟩
    · have hr := bf q172 hr
      refine w_aload_n 0 dX14_putIn_175 rfl rfl rfl ?_
      have hv15 := hz.ww898 (p := 0) (s := 0) rfl
      refine g_X14_16 dX14_putIn_176 rfl (hz.o14 rfl) (hz.rr898 rfl) ?_
      refine g_X14_338 dX14_putIn_179 rfl (hz.o12 hv15) (hz.r780 hv15) ?_
      refine w_bipush 6 dX14_putIn_182 rfl rfl ?_
      refine w_iload_n 1 dX14_putIn_184 rfl rfl rfl ?_
      refine w_imul dX14_putIn_185 rfl ?_
      refine w_iload 8 dX14_putIn_186 rfl rfl ?_
      refine w_iadd dX14_putIn_188 rfl ?_
      obtain ⟨g16, hr⟩ := gd hr
      refine w_iald dX14_putIn_189 rfl (hz.k780 hv15) (gin (hz.n780 hv15) g16) (hz.x780 hv15) ?_
      refine w_istore [(11, .int (zI ρ 1804 ((zR ρ 898 0 0 0).1) 0 (Int32.toNatClampNeg ((6 * x1) + y10)))), (0, .ref (A 14 0 0)), (1, .int x1), (2, .ref q0), (3, .int x3), (4, .int x4), (5, .int x5), (8, .int y8), (9, .int y9), (10, .int y10)] dX14_putIn_190 rfl (by decide) rfl ?_
      refine w_bipush 60 dX14_putIn_192 rfl rfl ?_
      refine w_iload_n 2 dX14_putIn_194 rfl rfl rfl ?_
      refine w_imul dX14_putIn_195 rfl ?_
      refine w_iload 7 dX14_putIn_196 rfl rfl ?_
      refine w_iadd dX14_putIn_198 rfl ?_
      refine w_bipush 6 dX14_putIn_199 rfl rfl ?_
      refine w_imul dX14_putIn_201 rfl ?_
      refine w_iload 9 dX14_putIn_202 rfl rfl ?_
      refine w_iadd dX14_putIn_204 rfl ?_
      refine w_istore [(12, .int ((((60 * x1) + y8) * 6) + y10)), (11, .int (zI ρ 1804 ((zR ρ 898 0 0 0).1) 0 (Int32.toNatClampNeg ((6 * x1) + y10)))), (0, .ref (A 14 0 0)), (1, .int x1), (2, .ref q0), (3, .int x3), (4, .int x4), (5, .int x5), (8, .int y8), (9, .int y9), (10, .int y10)] dX14_putIn_205 rfl (by decide) rfl ?_
      refine w_iload 1 dX14_putIn_207 rfl rfl ?_
      refine w_bipush 23 dX14_putIn_209 rfl rfl ?_
      refine w_icmp_ne 218 dX14_putIn_211 rfl rfl (fun q211 => ?_) (fun q211 => ?_)
      · have hr := bf q211 hr
        refine w_aload_n 2 dX14_putIn_218 rfl rfl rfl ?_
        refine w_aload_n 2 dX14_putIn_219 rfl rfl rfl ?_
        have hv17 := hz.ww898 (p := 0) (s := 0) rfl
        refine g_X14_16 dX14_putIn_220 rfl (hz.o14 rfl) (hz.rr898 rfl) ?_
        refine g_X14_335 dX14_putIn_223 rfl (hz.o12 hv17) (hz.r779 hv17) ?_
        refine w_bipush 6 dX14_putIn_226 rfl rfl ?_
        refine w_iload_n 3 dX14_putIn_228 rfl rfl rfl ?_
        refine w_imul dX14_putIn_229 rfl ?_
        refine w_iload 10 dX14_putIn_230 rfl rfl ?_
        refine w_iadd dX14_putIn_232 rfl ?_
        obtain ⟨g18, hr⟩ := gd hr
        refine w_iald dX14_putIn_233 rfl (hz.k779 hv17) (gin (hz.n779 hv17) g18) (hz.x779 hv17) ?_
        refine w_aload_n 4 dX14_putIn_234 rfl rfl rfl ?_
        refine w_iload_n 5 dX14_putIn_235 rfl rfl rfl ?_
        obtain ⟨v19, ρ20, e21, hr⟩ := bq_some hr
        refine c_X14_481 (As := [.int (zI ρ 1803 ((zR ρ 898 0 0 0).1) 0 (Int32.toNatClampNeg ((6 * x1) + y10))), .ref q0, .int x3]) (rest := []) (fun l => l_X14_worth  hz e21 l) hrm dX14_putIn_236 rfl rfl (Nat.le_of_ble_eq_true rfl) (Nat.le_of_ble_eq_true rfl) (Nat.le_of_ble_eq_true rfl) (hz.o14 rfl) rfl (Nat.le_of_ble_eq_true rfl) (fun vr h2 hq => ?_) (fun E9 h9 hq => hq.elim)
        obtain ⟨rfl, hz⟩ := hq
        show wp _ _ 239 [(12, .int ((((60 * x1) + y8) * 6) + y10)), (11, .int (zI ρ 1804 ((zR ρ 898 0 0 0).1) 0 (Int32.toNatClampNeg ((6 * x1) + y10)))), (0, .ref (A 14 0 0)), (1, .int x1), (2, .ref q0), (3, .int x3), (4, .int x4), (5, .int x5), (8, .int y8), (9, .int y9), (10, .int y10)] [.long v19] _ _ _
        refine w_lstore [(13, .long v19), (12, .int ((((60 * x1) + y8) * 6) + y10)), (11, .int (zI ρ 1804 ((zR ρ 898 0 0 0).1) 0 (Int32.toNatClampNeg ((6 * x1) + y10)))), (0, .ref (A 14 0 0)), (1, .int x1), (2, .ref q0), (3, .int x3), (4, .int x4), (5, .int x5), (8, .int y8), (9, .int y9), (10, .int y10)] dX14_putIn_239 rfl (by decide) rfl ?_
        refine w_iload 10 dX14_putIn_241 rfl rfl ?_
        refine w_if_eq 250 dX14_putIn_243 rfl rfl (fun q243 => ?_) (fun q243 => ?_)
        · have hr := bt q243 hr
          refine w_aload_n 3 dX14_putIn_250 rfl rfl rfl ?_
          refine g_X14_98 dX14_putIn_251 rfl (hz.o14 rfl) (hz.r938 rfl) ?_
          refine w_iload 1 dX14_putIn_254 rfl rfl ?_
          obtain ⟨g23, hr⟩ := gd hr
          refine w_lald dX14_putIn_256 rfl (hz.k938 rfl) (gin (hz.n938 rfl) g23) (hz.x938 rfl) ?_
          refine w_lv [(0, .ref (A 14 0 0)), (1, .int x1), (2, .ref q0), (3, .int x3), (4, .int x4), (5, .int x5), (8, .int y8), (9, .int y9), (10, .int y10), (11, .int (zI ρ 1804 ((zR ρ 898 0 0 0).1) 0 (Int32.toNatClampNeg ((6 * x1) + y10)))), (12, .int ((((60 * x1) + y8) * 6) + y10)), (13, .long v19)] [3, 4, 5, 6, 7, 8, 9, 10, 11, 2, 1, 0] rfl ?_
          exact y_X14_putIn_257 hf hrm  (fun by8 by9 by10 zb hb hzb  hrb => y_X14_putIn_161 hf hrm   n by8 by9 by10 zb hb hzb  hrb) y8 y9 y10 (zI ρ 1804 ((zR ρ 898 0 0 0).1) 0 (Int32.toNatClampNeg ((6 * x1) + y10))) ((((60 * x1) + y8) * 6) + y10) v19 (zJ ρ20 1962 0 0 (Int32.toNatClampNeg ((((60 * x1) + y8) * 6) + y10))) _ _ hz  hr
        · have hr := bf q243 hr
          refine w_lconst 0 dX14_putIn_246 rfl rfl ?_
          refine w_goto 257 dX14_putIn_247 rfl ?_
          refine w_lv [(0, .ref (A 14 0 0)), (1, .int x1), (2, .ref q0), (3, .int x3), (4, .int x4), (5, .int x5), (8, .int y8), (9, .int y9), (10, .int y10), (11, .int (zI ρ 1804 ((zR ρ 898 0 0 0).1) 0 (Int32.toNatClampNeg ((6 * x1) + y10)))), (12, .int ((((60 * x1) + y8) * 6) + y10)), (13, .long v19)] [3, 4, 5, 6, 7, 8, 9, 10, 11, 2, 1, 0] rfl ?_
          exact y_X14_putIn_257 hf hrm  (fun by8 by9 by10 zb hb hzb  hrb => y_X14_putIn_161 hf hrm   n by8 by9 by10 zb hb hzb  hrb) y8 y9 y10 (zI ρ 1804 ((zR ρ 898 0 0 0).1) 0 (Int32.toNatClampNeg ((6 * x1) + y10))) ((((60 * x1) + y8) * 6) + y10) v19 0 _ _ hz  hr
      · have hr := bt q211 hr
        refine w_lconst 1 dX14_putIn_214 rfl rfl ?_
        refine w_goto 239 dX14_putIn_215 rfl ?_
        refine w_lstore [(13, .long 1), (12, .int ((((60 * x1) + y8) * 6) + y10)), (11, .int (zI ρ 1804 ((zR ρ 898 0 0 0).1) 0 (Int32.toNatClampNeg ((6 * x1) + y10)))), (0, .ref (A 14 0 0)), (1, .int x1), (2, .ref q0), (3, .int x3), (4, .int x4), (5, .int x5), (8, .int y8), (9, .int y9), (10, .int y10)] dX14_putIn_239 rfl (by decide) rfl ?_
        refine w_iload 10 dX14_putIn_241 rfl rfl ?_
        refine w_if_eq 250 dX14_putIn_243 rfl rfl (fun q243 => ?_) (fun q243 => ?_)
        · have hr := bt q243 hr
          refine w_aload_n 3 dX14_putIn_250 rfl rfl rfl ?_
          refine g_X14_98 dX14_putIn_251 rfl (hz.o14 rfl) (hz.r938 rfl) ?_
          refine w_iload 1 dX14_putIn_254 rfl rfl ?_
          obtain ⟨g42, hr⟩ := gd hr
          refine w_lald dX14_putIn_256 rfl (hz.k938 rfl) (gin (hz.n938 rfl) g42) (hz.x938 rfl) ?_
          refine w_lv [(0, .ref (A 14 0 0)), (1, .int x1), (2, .ref q0), (3, .int x3), (4, .int x4), (5, .int x5), (8, .int y8), (9, .int y9), (10, .int y10), (11, .int (zI ρ 1804 ((zR ρ 898 0 0 0).1) 0 (Int32.toNatClampNeg ((6 * x1) + y10)))), (12, .int ((((60 * x1) + y8) * 6) + y10)), (13, .long 1)] [3, 4, 5, 6, 7, 8, 9, 10, 11, 2, 1, 0] rfl ?_
          exact y_X14_putIn_257 hf hrm  (fun by8 by9 by10 zb hb hzb  hrb => y_X14_putIn_161 hf hrm   n by8 by9 by10 zb hb hzb  hrb) y8 y9 y10 (zI ρ 1804 ((zR ρ 898 0 0 0).1) 0 (Int32.toNatClampNeg ((6 * x1) + y10))) ((((60 * x1) + y8) * 6) + y10) 1 (zJ ρ 1962 0 0 (Int32.toNatClampNeg ((((60 * x1) + y8) * 6) + y10))) _ _ hz  hr
        · have hr := bf q243 hr
          refine w_lconst 0 dX14_putIn_246 rfl rfl ?_
          refine w_goto 257 dX14_putIn_247 rfl ?_
          refine w_lv [(0, .ref (A 14 0 0)), (1, .int x1), (2, .ref q0), (3, .int x3), (4, .int x4), (5, .int x5), (8, .int y8), (9, .int y9), (10, .int y10), (11, .int (zI ρ 1804 ((zR ρ 898 0 0 0).1) 0 (Int32.toNatClampNeg ((6 * x1) + y10)))), (12, .int ((((60 * x1) + y8) * 6) + y10)), (13, .long 1)] [3, 4, 5, 6, 7, 8, 9, 10, 11, 2, 1, 0] rfl ?_
          exact y_X14_putIn_257 hf hrm  (fun by8 by9 by10 zb hb hzb  hrb => y_X14_putIn_161 hf hrm   n by8 by9 by10 zb hb hzb  hrb) y8 y9 y10 (zI ρ 1804 ((zR ρ 898 0 0 0).1) 0 (Int32.toNatClampNeg ((6 * x1) + y10))) ((((60 * x1) + y8) * 6) + y10) 1 0 _ _ hz  hr
set_option maxRecDepth 20000 in
set_option maxHeartbeats 4000000 in
theorem y_X14_putIn_140 {A : Nat → Nat → Nat → Nat} {q0 : Nat} {σ ρ' : Zs} {v : Int32} {x : Cxt} {x1 : Int32} {x3 : Int32} {x4 : Int32} {x5 : Int32}  (hf : m_fin 0 0 ((QIL q0) A v σ ρ') X0 x) (hrm : m_rm 3 0 0 x)  : ∀ (y8 : Int32) (z0 : Int32) (ρ : Zs) (h : Hp), RpL A q0 h σ ρ → fX14_putIn_140 x1 1919 0 0 7 x3 x4 x5  y8 z0 ρ = some (v, ρ') → wp x mX14_putIn 140 [(0, .ref (A 14 0 0)), (1, .int x1), (2, .ref q0), (3, .int x3), (4, .int x4), (5, .int x5), (8, .int y8)] [.int z0] h 0 0 := by
  intro y8 z0 ρ h hz hr
  rw [fX14_putIn_140.eq_1] at hr
  refine w_istore [(9, .int z0), (0, .ref (A 14 0 0)), (1, .int x1), (2, .ref q0), (3, .int x3), (4, .int x4), (5, .int x5), (8, .int y8)] dX14_putIn_140 rfl (by decide) rfl ?_
  refine w_aload_n 1 dX14_putIn_142 rfl rfl rfl ?_
  refine g_X14_101 dX14_putIn_143 rfl (hz.o14 rfl) (hz.r939 rfl) ?_
  refine w_bipush 60 dX14_putIn_146 rfl rfl ?_
  refine w_iload_n 2 dX14_putIn_148 rfl rfl rfl ?_
  refine w_imul dX14_putIn_149 rfl ?_
  refine w_iload 7 dX14_putIn_150 rfl rfl ?_
  refine w_iadd dX14_putIn_152 rfl ?_
  refine w_dup2 dX14_putIn_153 rfl rfl rfl ?_
  obtain ⟨g9, hr⟩ := gd hr
  refine w_iald dX14_putIn_154 rfl (hz.k939 rfl) (gin (hz.n939 rfl) g9) (hz.x939 rfl) ?_
  refine w_iconst 1 dX14_putIn_155 rfl rfl ?_
  refine w_iadd dX14_putIn_156 rfl ?_
  obtain ⟨g10, hr⟩ := gd hr
  refine w_iast dX14_putIn_157 rfl (hz.k939 rfl) (gin (hz.n939 rfl) g10) ?_
  obtain ⟨ρ11, e12, hr⟩ := lt_e hr
  have hz := (hz.s939 (i := (Int32.toNatClampNeg ((60 * x1) + y8))) (v := ((zI ρ 1963 0 0 (Int32.toNatClampNeg ((60 * x1) + y8))) + 1)) rfl).tr e12
  refine w_iconst 2 dX14_putIn_158 rfl rfl ?_
  refine w_istore [(10, .int 2), (9, .int z0), (0, .ref (A 14 0 0)), (1, .int x1), (2, .ref q0), (3, .int x3), (4, .int x4), (5, .int x5), (8, .int y8)] dX14_putIn_159 rfl (by decide) rfl ?_
  refine w_lv [(0, .ref (A 14 0 0)), (1, .int x1), (2, .ref q0), (3, .int x3), (4, .int x4), (5, .int x5), (8, .int y8), (9, .int z0), (10, .int 2)] [2, 3, 4, 5, 6, 7, 8, 1, 0] rfl ?_
  exact y_X14_putIn_161 hf hrm   FU y8 z0 2 _ _ hz  hr
set_option maxRecDepth 20000 in
set_option maxHeartbeats 4000000 in
theorem l_X14_putIn {A : Nat → Nat → Nat → Nat} {q0 : Nat} {h : Hp} {σ ρ ρ' : Zs} {v : Int32} {x1 : Int32} {x3 : Int32} {x4 : Int32} {x5 : Int32}  (hz : RpL A q0 h σ ρ) (hr : fX14_putIn x1 1919 0 0 7 x3 x4 x5 ρ = some (v, ρ')) : ∀ l : Launch, Sp l mX14_putIn 3 0 0 [.ref (A 14 0 0), .int x1, .ref q0, .int x3, .int x4, .int x5] h ((QIL q0) A v σ ρ') X0 := by
  intro l
  refine Sp.of rfl rfl (lv := [(0, .ref (A 14 0 0)), (1, .int x1), (2, .ref q0), (3, .int x3), (4, .int x4), (5, .int x5)]) (Nat.le_of_ble_eq_true rfl) rfl (fun x hf hrm => ?_)
  rw [fX14_putIn.eq_1] at hr
  refine w_aload_n 2 dX14_putIn_0 rfl rfl rfl ?_
  refine w_iload_n 3 dX14_putIn_1 rfl rfl rfl ?_
  refine w_iconst 1 dX14_putIn_2 rfl rfl ?_
  refine w_iadd dX14_putIn_3 rfl ?_
  refine w_aload_n 0 dX14_putIn_4 rfl rfl rfl ?_
  have hv1 := hz.ww898 (p := 0) (s := 0) rfl
  refine g_X14_16 dX14_putIn_5 rfl (hz.o14 rfl) (hz.rr898 rfl) ?_
  refine g_X14_387 dX14_putIn_8 rfl (hz.o12 hv1) (hz.r777 hv1) ?_
  refine w_iload_n 1 dX14_putIn_11 rfl rfl rfl ?_
  obtain ⟨g2, hr⟩ := gd hr
  refine w_iald dX14_putIn_12 rfl (hz.k777 hv1) (gin (hz.n777 hv1) g2) (hz.x777 hv1) ?_
  refine w_iadd dX14_putIn_13 rfl ?_
  obtain ⟨g3, hr⟩ := gd hr
  refine w_lald dX14_putIn_14 rfl hz.tk (gin hz.tn g3) hz.ty ?_
  refine w_lstore [(6, .long (zJ ρ 1919 0 0 (Int32.toNatClampNeg ((x3 + 1) + (zI ρ 1801 ((zR ρ 898 0 0 0).1) 0 (Int32.toNatClampNeg x1)))))), (0, .ref (A 14 0 0)), (1, .int x1), (2, .ref q0), (3, .int x3), (4, .int x4), (5, .int x5)] dX14_putIn_15 rfl (by decide) rfl ?_
  refine w_aload_n 1 dX14_putIn_17 rfl rfl rfl ?_
  refine w_iload_n 2 dX14_putIn_18 rfl rfl rfl ?_
  refine w_lload 0 dX14_putIn_19 rfl rfl ?_
  refine w_iload 5 dX14_putIn_21 rfl rfl ?_
  obtain ⟨v4, ρ5, e6, hr⟩ := bq_some hr
  refine c_X14_491 (As := [.int x1, .long (zJ ρ 1919 0 0 (Int32.toNatClampNeg ((x3 + 1) + (zI ρ 1801 ((zR ρ 898 0 0 0).1) 0 (Int32.toNatClampNeg x1))))), .int x4]) (rest := []) (fun l => l_X14_findWindow  hz e6 l) hrm dX14_putIn_23 rfl rfl (Nat.le_of_ble_eq_true rfl) (Nat.le_of_ble_eq_true rfl) (Nat.le_of_ble_eq_true rfl) (hz.o14 rfl) rfl (Nat.le_of_ble_eq_true rfl) (fun vr h2 hq => ?_) (fun E9 h9 hq => hq.elim)
  obtain ⟨rfl, hz⟩ := hq
  show wp _ _ 26 [(6, .long (zJ ρ 1919 0 0 (Int32.toNatClampNeg ((x3 + 1) + (zI ρ 1801 ((zR ρ 898 0 0 0).1) 0 (Int32.toNatClampNeg x1)))))), (0, .ref (A 14 0 0)), (1, .int x1), (2, .ref q0), (3, .int x3), (4, .int x4), (5, .int x5)] [.int v4] _ _ _
  refine w_istore [(8, .int v4), (6, .long (zJ ρ 1919 0 0 (Int32.toNatClampNeg ((x3 + 1) + (zI ρ 1801 ((zR ρ 898 0 0 0).1) 0 (Int32.toNatClampNeg x1)))))), (0, .ref (A 14 0 0)), (1, .int x1), (2, .ref q0), (3, .int x3), (4, .int x4), (5, .int x5)] dX14_putIn_26 rfl (by decide) rfl ?_
  refine w_iload 0 dX14_putIn_28 rfl rfl ?_
  refine w_iconst (-1) dX14_putIn_30 rfl rfl ?_
  refine w_icmp_ne 120 dX14_putIn_31 rfl rfl (fun q31 => ?_) (fun q31 => ?_)
  · have hr := bf q31 hr
    refine w_aload_n 2 dX14_putIn_120 rfl rfl rfl ?_
    refine g_X14_101 dX14_putIn_121 rfl (hz.o14 rfl) (hz.r939 rfl) ?_
    refine w_bipush 60 dX14_putIn_124 rfl rfl ?_
    refine w_iload_n 3 dX14_putIn_126 rfl rfl rfl ?_
    refine w_imul dX14_putIn_127 rfl ?_
    refine w_iload 0 dX14_putIn_128 rfl rfl ?_
    refine w_iadd dX14_putIn_130 rfl ?_
    obtain ⟨g8, hr⟩ := gd hr
    refine w_iald dX14_putIn_131 rfl (hz.k939 rfl) (gin (hz.n939 rfl) g8) (hz.x939 rfl) ?_
    refine w_if_ne 139 dX14_putIn_132 rfl rfl (fun q132 => ?_) (fun q132 => ?_)
    · have hr := bf q132 hr
      refine w_iconst 0 dX14_putIn_139 rfl rfl ?_
      refine w_lv [(0, .ref (A 14 0 0)), (1, .int x1), (2, .ref q0), (3, .int x3), (4, .int x4), (5, .int x5), (8, .int v4)] [2, 3, 4, 5, 6, 7, 0] rfl ?_
      exact y_X14_putIn_140 hf hrm   v4 0 _ _ hz  hr
    · have hr := bt q132 hr
      refine w_iconst 1 dX14_putIn_135 rfl rfl ?_
      refine w_goto 140 dX14_putIn_136 rfl ?_
      refine w_lv [(0, .ref (A 14 0 0)), (1, .int x1), (2, .ref q0), (3, .int x3), (4, .int x4), (5, .int x5), (8, .int v4)] [2, 3, 4, 5, 6, 7, 0] rfl ?_
      exact y_X14_putIn_140 hf hrm   v4 1 _ _ hz  hr
  · have hr := bt q31 hr
    refine w_aload_n 2 dX14_putIn_34 rfl rfl rfl ?_
    refine g_X14_85 dX14_putIn_35 rfl (hz.o14 rfl) (hz.r934 rfl) ?_
    refine w_iload_n 3 dX14_putIn_38 rfl rfl rfl ?_
    obtain ⟨g43, hr⟩ := gd hr
    refine w_iald dX14_putIn_39 rfl (hz.k934 rfl) (gin (hz.n934 rfl) g43) (hz.x934 rfl) ?_
    refine w_bipush 60 dX14_putIn_40 rfl rfl ?_
    refine w_icmp_ne 47 dX14_putIn_42 rfl rfl (fun q42 => ?_) (fun q42 => ?_)
    · have hr := bf q42 hr
      refine w_aload_n 2 dX14_putIn_47 rfl rfl rfl ?_
      refine g_X14_85 dX14_putIn_48 rfl (hz.o14 rfl) (hz.r934 rfl) ?_
      refine w_iload_n 3 dX14_putIn_51 rfl rfl rfl ?_
      obtain ⟨g44, hr⟩ := gd hr
      refine w_iald dX14_putIn_52 rfl (hz.k934 rfl) (gin (hz.n934 rfl) g44) (hz.x934 rfl) ?_
      refine w_istore [(8, .int (zI ρ5 1958 0 0 (Int32.toNatClampNeg x1))), (6, .long (zJ ρ 1919 0 0 (Int32.toNatClampNeg ((x3 + 1) + (zI ρ 1801 ((zR ρ 898 0 0 0).1) 0 (Int32.toNatClampNeg x1)))))), (0, .ref (A 14 0 0)), (1, .int x1), (2, .ref q0), (3, .int x3), (4, .int x4), (5, .int x5)] dX14_putIn_53 rfl (by decide) rfl ?_
      refine w_aload_n 2 dX14_putIn_55 rfl rfl rfl ?_
      refine g_X14_85 dX14_putIn_56 rfl (hz.o14 rfl) (hz.r934 rfl) ?_
      refine w_iload_n 3 dX14_putIn_59 rfl rfl rfl ?_
      refine w_dup2 dX14_putIn_60 rfl rfl rfl ?_
      obtain ⟨g45, hr⟩ := gd hr
      refine w_iald dX14_putIn_61 rfl (hz.k934 rfl) (gin (hz.n934 rfl) g45) (hz.x934 rfl) ?_
      refine w_iconst 1 dX14_putIn_62 rfl rfl ?_
      refine w_iadd dX14_putIn_63 rfl ?_
      obtain ⟨g46, hr⟩ := gd hr
      refine w_iast dX14_putIn_64 rfl (hz.k934 rfl) (gin (hz.n934 rfl) g46) ?_
      obtain ⟨ρ47, e48, hr⟩ := lt_e hr
      have hz := (hz.s934 (i := (Int32.toNatClampNeg x1)) (v := ((zI ρ5 1958 0 0 (Int32.toNatClampNeg x1)) + 1)) rfl).tr e48
      refine w_aload_n 2 dX14_putIn_65 rfl rfl rfl ?_
      refine g_X14_88 dX14_putIn_66 rfl (hz.o14 rfl) (hz.r935 rfl) ?_
      refine w_bipush 60 dX14_putIn_69 rfl rfl ?_
      refine w_iload_n 3 dX14_putIn_71 rfl rfl rfl ?_
      refine w_imul dX14_putIn_72 rfl ?_
      refine w_iload 0 dX14_putIn_73 rfl rfl ?_
      refine w_iadd dX14_putIn_75 rfl ?_
      refine w_lload 1 dX14_putIn_76 rfl rfl ?_
      obtain ⟨g49, hr⟩ := gd hr
      refine w_last dX14_putIn_78 rfl (hz.k935 rfl) (gin (hz.n935 rfl) g49) ?_
      obtain ⟨ρ50, e51, hr⟩ := lt_e hr
      have hz := (hz.s935 (i := (Int32.toNatClampNeg ((60 * x1) + (zI ρ5 1958 0 0 (Int32.toNatClampNeg x1))))) (v := (zJ ρ 1919 0 0 (Int32.toNatClampNeg ((x3 + 1) + (zI ρ 1801 ((zR ρ 898 0 0 0).1) 0 (Int32.toNatClampNeg x1)))))) rfl).tr e51
      refine w_aload_n 2 dX14_putIn_79 rfl rfl rfl ?_
      refine g_X14_91 dX14_putIn_80 rfl (hz.o14 rfl) (hz.r936 rfl) ?_
      refine w_bipush 60 dX14_putIn_83 rfl rfl ?_
      refine w_iload_n 3 dX14_putIn_85 rfl rfl rfl ?_
      refine w_imul dX14_putIn_86 rfl ?_
      refine w_iload 0 dX14_putIn_87 rfl rfl ?_
      refine w_iadd dX14_putIn_89 rfl ?_
      refine w_iload 6 dX14_putIn_90 rfl rfl ?_
      obtain ⟨g52, hr⟩ := gd hr
      refine w_iast dX14_putIn_92 rfl (hz.k936 rfl) (gin (hz.n936 rfl) g52) ?_
      obtain ⟨ρ53, e54, hr⟩ := lt_e hr
      have hz := (hz.s936 (i := (Int32.toNatClampNeg ((60 * x1) + (zI ρ5 1958 0 0 (Int32.toNatClampNeg x1))))) (v := x4) rfl).tr e54
      refine w_aload_n 2 dX14_putIn_93 rfl rfl rfl ?_
      refine g_X14_94 dX14_putIn_94 rfl (hz.o14 rfl) (hz.r937 rfl) ?_
      refine w_bipush 60 dX14_putIn_97 rfl rfl ?_
      refine w_iload_n 3 dX14_putIn_99 rfl rfl rfl ?_
      refine w_imul dX14_putIn_100 rfl ?_
      refine w_iload 0 dX14_putIn_101 rfl rfl ?_
      refine w_iadd dX14_putIn_103 rfl ?_
      refine w_iload 7 dX14_putIn_104 rfl rfl ?_
      obtain ⟨g55, hr⟩ := gd hr
      obtain ⟨g56, hr⟩ := gd hr
      refine w_zast dX14_putIn_106 rfl (hz.k937 rfl) (gin (hz.n937 rfl) g55) (zn g56) ?_
      obtain ⟨ρ57, e58, hr⟩ := lt_e hr
      have hz := (hz.s937 (i := (Int32.toNatClampNeg ((60 * x1) + (zI ρ5 1958 0 0 (Int32.toNatClampNeg x1))))) (v := x5) rfl).tr e58
      refine w_aload_n 2 dX14_putIn_107 rfl rfl rfl ?_
      refine g_X14_101 dX14_putIn_108 rfl (hz.o14 rfl) (hz.r939 rfl) ?_
      refine w_bipush 60 dX14_putIn_111 rfl rfl ?_
      refine w_iload_n 3 dX14_putIn_113 rfl rfl rfl ?_
      refine w_imul dX14_putIn_114 rfl ?_
      refine w_iload 0 dX14_putIn_115 rfl rfl ?_
      refine w_iadd dX14_putIn_117 rfl ?_
      refine w_iconst 0 dX14_putIn_118 rfl rfl ?_
      obtain ⟨g59, hr⟩ := gd hr
      refine w_iast dX14_putIn_119 rfl (hz.k939 rfl) (gin (hz.n939 rfl) g59) ?_
      obtain ⟨ρ60, e61, hr⟩ := lt_e hr
      have hz := (hz.s939 (i := (Int32.toNatClampNeg ((60 * x1) + (zI ρ5 1958 0 0 (Int32.toNatClampNeg x1))))) (v := 0) rfl).tr e61
      refine w_aload_n 2 dX14_putIn_120 rfl rfl rfl ?_
      refine g_X14_101 dX14_putIn_121 rfl (hz.o14 rfl) (hz.r939 rfl) ?_
      refine w_bipush 60 dX14_putIn_124 rfl rfl ?_
      refine w_iload_n 3 dX14_putIn_126 rfl rfl rfl ?_
      refine w_imul dX14_putIn_127 rfl ?_
      refine w_iload 0 dX14_putIn_128 rfl rfl ?_
      refine w_iadd dX14_putIn_130 rfl ?_
      obtain ⟨g62, hr⟩ := gd hr
      refine w_iald dX14_putIn_131 rfl (hz.k939 rfl) (gin (hz.n939 rfl) g62) (hz.x939 rfl) ?_
      refine w_if_ne 139 dX14_putIn_132 rfl rfl (fun q132 => ?_) (fun q132 => ?_)
      · have hr := bf q132 hr
        refine w_iconst 0 dX14_putIn_139 rfl rfl ?_
        refine w_lv [(0, .ref (A 14 0 0)), (1, .int x1), (2, .ref q0), (3, .int x3), (4, .int x4), (5, .int x5), (8, .int (zI ρ5 1958 0 0 (Int32.toNatClampNeg x1)))] [2, 3, 4, 5, 6, 7, 0] rfl ?_
        exact y_X14_putIn_140 hf hrm   (zI ρ5 1958 0 0 (Int32.toNatClampNeg x1)) 0 _ _ hz  hr
      · have hr := bt q132 hr
        refine w_iconst 1 dX14_putIn_135 rfl rfl ?_
        refine w_goto 140 dX14_putIn_136 rfl ?_
        refine w_lv [(0, .ref (A 14 0 0)), (1, .int x1), (2, .ref q0), (3, .int x3), (4, .int x4), (5, .int x5), (8, .int (zI ρ5 1958 0 0 (Int32.toNatClampNeg x1)))] [2, 3, 4, 5, 6, 7, 0] rfl ?_
        exact y_X14_putIn_140 hf hrm   (zI ρ5 1958 0 0 (Int32.toNatClampNeg x1)) 1 _ _ hz  hr
    · have hr := bt q42 hr
      refine w_iconst (-1) dX14_putIn_45 rfl rfl ?_
      refine w_iret hf dX14_putIn_46 rfl (Nat.le_of_ble_eq_true rfl) (Nat.le_of_ble_eq_true rfl) ?_
      obtain ⟨rfl, rfl⟩ := ret_inj hr
      exact ⟨rfl, hz⟩

