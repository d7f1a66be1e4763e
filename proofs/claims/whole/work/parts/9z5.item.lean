/-! ITEMS, both: an item -/
noncomputable def cItem (σ : Zs) : Option (Unit × Zs) := if ((zI σ 260 0 0 0) : Int32) = 128 then fX4_source σ else if ((zI σ 260 0 0 0) : Int32) = 130 then fX4_step σ else if ((zI σ 260 0 0 0) : Int32) = 145 then fX4_check σ else fX4_fail σ
section IT9
variable {x : Cx} {t : Nat} {σ ρ : Zs} {d : Pd}
theorem p41_e {k16 : Int32 → Zs → Option (Int32 × Zs)} {y : Int32} : fX4_parse_41 k16 y σ = bq (cItem σ) fun _ z => k16 (y + 1) z := by
  unfold fX4_parse_41 cItem
  rw [bq_if, bq_if, bq_if]
theorem k_cItem {S : Nat} {σ0 z : Zs} (h : St0 S σ0 z) : Wp1 (cItem z) fun _ => St0 S σ0 := wp_ite (k_source h) (wp_ite (k_step h) (wp_ite (k_check h) (k_fail0 h)))
theorem x_item (hc : Cok x) (h : ITm x d t σ ρ) : SM (Er0 x) (cItem σ) (fX14_item ρ) (fun _ σ' _ ρ' => ∃ t' d', t + 2 ≤ t' ∧ ITm x d' t' σ' ρ') := by
  obtain ⟨i1, i2, i3, i4, i5, i6, i7⟩ := id h
  have hv := PSt.k204 hc i3.1
  have T := hc.tk rfl i1.2.1 i2 i3.1
  have ht := hc.n i3.1
  have e260 : zI σ 260 0 0 0 = ck (qk x t) := i3.2.2.2.1
  have e905 : zI ρ 905 0 0 0 = nI t := i3.2.2.2.2.2.2
  have g5 : gi (zI ρ 905 0 0 0) 1501 := by rw [e905]; exact (n_gi (by omega)).mpr (by omega)
  have k9 : zI ρ 1926 0 0 (Int32.toNatClampNeg (zI ρ 905 0 0 0)) = nI (qk x t) := by rw [e905, n_cl (by omega)]; exact T.2.2.1
  unfold cItem
  rw [e260]
  by_cases q0 : qk x t = 0
  · rw [if_pos (show ck (qk x t) = 128 by rw [q0]; rfl)]
    exact x_source hc h q0
  · rw [if_neg (show ¬ ck (qk x t) = 128 from ck_ne (j := 0) hv.1 rfl q0)]
    by_cases q2 : qk x t = 2
    · rw [if_pos (show ck (qk x t) = 130 by rw [q2]; rfl)]
      exact x_step hc h q2
    · rw [if_neg (show ¬ ck (qk x t) = 130 from ck_ne (j := 2) hv.1 rfl q2)]
      by_cases q17 : qk x t = 17
      · rw [if_pos (show ck (qk x t) = 145 by rw [q17]; rfl)]
        exact x_check hc h q17
      · rw [if_neg (show ¬ ck (qk x t) = 145 from ck_ne (j := 17) hv.1 rfl q17)]
        have hl : fX14_item ρ = some (.error (1, nI (qp x t)), ρ) := by
          unfold fX14_item
          rw [if_pos g5, if_pos g5, k9, if_neg (show ¬ (nI (qk x t) : Int32) = 17 by rw [show (17 : Int32) = nI 17 from rfl, n_eq (by omega) (by omega)]; exact q17), if_neg (show ¬ (nI (qk x t) : Int32) = 0 by rw [i_0, n_eq (by omega) (by omega)]; exact q0), if_neg (show ¬ (nI (qk x t) : Int32) = 2 by rw [show (2 : Int32) = nI 2 from rfl, n_eq (by omega) (by omega)]; exact q2), bq_e (i3.wr hc i1.2.1 i2)]
        rw [hl]
        refine sm_x ?_
        have k := k_fail0 i1
        unfold fX4_fail at k ⊢
        have hp : qp x t ≤ 1500 := (hc.1.2.2.1 t i3.1).2.1
        have q : ¬ (0 : Int32) ≤ zI σ 258 0 0 0 := by rw [i3.2.1]; decide
        rw [if_neg q, lt_k, lt_k] at k ⊢
        refine ⟨k, i2, Or.inl ⟨rfl, i3.2.2.2.2.1, ?_⟩⟩
        show zI σ 261 0 0 0 ≠ -nI 1
        rw [i3.2.2.2.2.1]
        exact fun z => (n_m1 (by omega)).mp z
end IT9
