/-! THE LAW'S WALK: the loop -/
theorem and31 (a : Int32) : ∃ k, k < 32 ∧ a &&& 31 = nI k := by
  refine ⟨a.toBitVec.toNat % 32, Nat.mod_lt _ (by decide), ?_⟩
  apply Int32.toBitVec_inj.mp
  apply BitVec.eq_of_toNat_eq
  rw [Int32.toBitVec_and, BitVec.toNat_and]
  have e1 : (31 : Int32).toBitVec.toNat = 2 ^ 5 - 1 := by decide
  rw [e1, Nat.and_two_pow_sub_one_eq_mod]
  show _ = (BitVec.ofNat 32 (a.toBitVec.toNat % 32)).toNat
  rw [BitVec.toNat_ofNat, Nat.mod_eq_of_lt (show a.toBitVec.toNat % 32 < 2 ^ 32 by omega)]
theorem i_gt6 {L i : Nat} (hL : L ≤ 3072) (hi : i ≤ 4000) : (nI L - 6 < nI i) ↔ L < i + 6 := by
  rw [Int32.lt_iff_toInt_lt, show (6 : Int32) = nI 6 from rfl, pk_sub_toInt (by omega) (by omega), nI_toInt (by omega)]
  omega
section LL
variable {x : Cxt} {b L i kc ks T : Nat} {xs : Nat → Int32} {A : Nat → Nat → Nat → Nat} {h : Hp} {σ ρ : Zs}
/-- a call -/
theorem law_one (hsc : scrOk x b L xs) (hrm : m_rm 2048 177588 8563342 x) (hL : L ≤ 3072) (hi : i + 6 ≤ L) (hz : Rp A h σ ρ) (hR : Rel T σ ρ) (h1 : kc + 3 * T + 210 ≤ 177588) (h2 : ks + 22 * T + 8000 ≤ 8563342) (nx : NX x b i T kc ks) : wp x mLaw 33 (LI b A i) [] h kc ks := by
  refine w_aload_n 4 dL_law_33 rfl rfl rfl ?_
  refine w_iload 0 dL_law_34 rfl rfl ?_
  refine w_sld hsc (by omega) hL dL_law_36 rfl ?_
  refine w_bipush 31 dL_law_37 rfl (by decide) ?_
  refine w_iand dL_law_39 rfl ?_
  obtain ⟨k, hk, e⟩ := and31 (xs i)
  rw [e]
  have ek : (nI k : Int32).toInt = (k : Int) := nI_toInt (by omega)
  by_cases q : 28 ≤ k
  · refine w_tableOut 1563 dL_law_40 (Or.inr (by rw [ek]; omega)) (by decide) ?_
    exact nx A h σ ρ T kc ks hz hR (by omega) (by omega)
  · have tin : ∀ {off : Int} (tgt : Nat), (#[128, 232, 288, 301, 314, 327, 383, 451, 539, 552, 620, 676, 755, 811, 895, 963, 1030, 1086, 1142, 1198, 1211, 1224, 1268, 1312, 1368, 1412, 1468, 1509] : Array Int)[k]? = some off → (40 : Int) + off = (tgt : Int) → wp x mLaw tgt (LI b A i) [] h kc ks → wp x mLaw 40 (LI b A i) [.int (nI k)] h kc ks := fun {off} tgt ho ht kk => by
      refine w_tableIn tgt dL_law_40 (by rw [ek]; omega) (by rw [ek]; omega) ?_ ht kk
      rw [ek]
      have e0 : ((k : Int) - 0).toNat = k := by omega
      rw [e0]
      exact ho
    have hk' : k = 0 ∨ k = 1 ∨ k = 2 ∨ k = 3 ∨ k = 4 ∨ k = 5 ∨ k = 6 ∨ k = 7 ∨ k = 8 ∨ k = 9 ∨ k = 10 ∨ k = 11 ∨ k = 12 ∨ k = 13 ∨ k = 14 ∨ k = 15 ∨ k = 16 ∨ k = 17 ∨ k = 18 ∨ k = 19 ∨ k = 20 ∨ k = 21 ∨ k = 22 ∨ k = 23 ∨ k = 24 ∨ k = 25 ∨ k = 26 ∨ k = 27 := by omega
    rcases hk' with rfl | rfl | rfl | rfl | rfl | rfl | rfl | rfl | rfl | rfl | rfl | rfl | rfl | rfl | rfl | rfl | rfl | rfl | rfl | rfl | rfl | rfl | rfl | rfl | rfl | rfl | rfl | rfl
    · exact tin 168 rfl (by decide) (law_feed hsc hrm hL hi hz hR h1 h2 nx)
    · exact tin 272 rfl (by decide) (law_trim hsc hrm hL hi hz hR h1 h2 nx)
    · exact tin 328 rfl (by decide) (law_compile hsc hrm hL hi hz hR h1 h2 nx)
    · exact tin 341 rfl (by decide) (law_errorAt hsc hrm hL hi hz hR h1 h2 nx)
    · exact tin 354 rfl (by decide) (law_find hsc hrm hL hi hz hR h1 h2 nx)
    · exact tin 367 rfl (by decide) (law_count hsc hrm hL hi hz hR h1 h2 nx)
    · exact tin 423 rfl (by decide) (law_stream hsc hrm hL hi hz hR h1 h2 nx)
    · exact tin 491 rfl (by decide) (law_value hsc hrm hL hi hz hR h1 h2 nx)
    · exact tin 579 rfl (by decide) (law_forget hsc hrm hL hi hz hR h1 h2 nx)
    · exact tin 592 rfl (by decide) (law_push hsc hrm hL hi hz hR h1 h2 nx)
    · exact tin 660 rfl (by decide) (law_rows hsc hrm hL hi hz hR h1 h2 nx)
    · exact tin 716 rfl (by decide) (law_cell hsc hrm hL hi hz hR h1 h2 nx)
    · exact tin 795 rfl (by decide) (law_watermark hsc hrm hL hi hz hR h1 h2 nx)
    · exact tin 851 rfl (by decide) (law_windows hsc hrm hL hi hz hR h1 h2 nx)
    · exact tin 935 rfl (by decide) (law_held hsc hrm hL hi hz hR h1 h2 nx)
    · exact tin 1003 rfl (by decide) (law_heldValue hsc hrm hL hi hz hR h1 h2 nx)
    · exact tin 1070 rfl (by decide) (law_release hsc hrm hL hi hz hR h1 h2 nx)
    · exact tin 1126 rfl (by decide) (law_discard hsc hrm hL hi hz hR h1 h2 nx)
    · exact tin 1182 rfl (by decide) (law_broken hsc hrm hL hi hz hR h1 h2 nx)
    · exact tin 1238 rfl (by decide) (law_lost hsc hrm hL hi hz hR h1 h2 nx)
    · exact tin 1251 rfl (by decide) (law_isStopped hsc hrm hL hi hz hR h1 h2 nx)
    · exact tin 1264 rfl (by decide) (law_go hsc hrm hL hi hz hR h1 h2 nx)
    · exact tin 1308 rfl (by decide) (law_mark hsc hrm hL hi hz hR h1 h2 nx)
    · exact tin 1352 rfl (by decide) (law_back hsc hrm hL hi hz hR h1 h2 nx)
    · exact tin 1408 rfl (by decide) (law_replay hsc hrm hL hi hz hR h1 h2 nx)
    · exact tin 1452 rfl (by decide) (law_changed hsc hrm hL hi hz hR h1 h2 nx)
    · exact tin 1508 rfl (by decide) (law_taken hsc hrm hL hi hz hR h1 h2 nx)
    · exact tin 1549 rfl (by decide) (law_digest hsc hrm hL hi hz hR h1 h2 nx)
/-- all of the script -/
theorem law_loop (hsc : scrOk x b L xs) (hrm : m_rm 2048 177588 8563342 x) (hf : finL x) (hL : L ≤ 3072) : ∀ (n i T kc ks : Nat) (A : Nat → Nat → Nat → Nat) (h : Hp) (σ ρ : Zs), L < i + 6 * n + 6 → i ≤ L → Rp A h σ ρ → Rel T σ ρ → kc + 3 * T + 210 * n ≤ 177588 → ks + 22 * T + 8000 * n ≤ 8563342 → wp x mLaw 23 (LI b A i) [] h kc ks := by
  intro n
  induction n with
  | zero =>
    intro i T kc ks A h σ ρ h0 hi hz hR h1 h2
    refine w_iload 0 dL_law_23 rfl rfl ?_
    refine w_aload_n 4 dL_law_25 rfl rfl rfl ?_
    refine w_slen hsc dL_law_26 rfl ?_
    refine w_bipush 6 dL_law_27 rfl (by decide) ?_
    refine w_isub dL_law_29 rfl ?_
    refine w_icmp_gt 1569 dL_law_30 rfl (by decide) (fun _ => ?_) (fun q => absurd ((i_gt6 hL (by omega)).mpr (by omega)) q)
    refine w_iconst 1 dL_law_1569 rfl rfl ?_
    exact w_lawret hf dL_law_1570 (by omega) (by omega)
  | succ n ih =>
    intro i T kc ks A h σ ρ h0 hi hz hR h1 h2
    rw [Nat.mul_succ] at h1 h2
    refine w_iload 0 dL_law_23 rfl rfl ?_
    refine w_aload_n 4 dL_law_25 rfl rfl rfl ?_
    refine w_slen hsc dL_law_26 rfl ?_
    refine w_bipush 6 dL_law_27 rfl (by decide) ?_
    refine w_isub dL_law_29 rfl ?_
    refine w_icmp_gt 1569 dL_law_30 rfl (by decide) (fun _ => ?_) (fun q => ?_)
    · refine w_iconst 1 dL_law_1569 rfl rfl ?_
      exact w_lawret hf dL_law_1570 (by omega) (by omega)
    · have hi6 : i + 6 ≤ L := by
        have : ¬ L < i + 6 := fun z => q ((i_gt6 hL (by omega)).mpr z)
        omega
      have g1 : kc + 3 * T + 210 ≤ 177588 := Nat.le_trans (by omega) h1
      have g2 : ks + 22 * T + 8000 ≤ 8563342 := Nat.le_trans (Nat.add_le_add_left (Nat.le_add_left 8000 (8000 * n)) _) h2
      refine law_one hsc hrm hL hi6 hz hR g1 g2 (fun A' h' σ' ρ' T' kc' ks' hz' hR' g1 g2 => ?_)
      refine w_iinc 0 (nI (i + 6)) (LI b A' (i + 6)) dL_law_1563 rfl rfl (n_add i 6) (by decide) rfl ?_
      refine w_goto 23 dL_law_1566 (by decide) ?_
      exact ih (i + 6) T' kc' ks' A' h' σ' ρ' (by omega) (by omega) hz' hR' (by omega) (by omega)
end LL
