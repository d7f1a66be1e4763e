/-! STEPS: the loops over the new rows of an input -/
section LP
variable {P g : Nat} {d : Pd} {σ0 ρ0 : Zs} {τ : Prop} {X : Nat → Nat → Nat} {σ ρ : Zs} {s t off a r v : Nat}
theorem r_look0 (hB : EB P g d σ0 ρ0) (hs : s < dN d) (hk0 : dK d s ≠ 0) (hk5 : dK d s ≠ 5) {y3 : Int32} : ∀ (k n m : Nat) (X : Nat → Nat → Nat) (σ ρ : Zs), X 7 s + k = X 0 (dA d s) → k < n → k < m → ER P d σ0 ρ0 τ X σ ρ → X 12 0 = 0 → X 9 s + k ≤ 1000000 → (dK d s = 6 → X 11 s = X 7 s) →
    ∃ σ' ρ' X', fX1_lookAtNewRows_22 (nI s) P s (nI 0) n P (dA d s) (nI (X 7 s)) σ = some ((), σ') ∧ fX14_doStep_41 (nI s) m (nI (dA d s)) y3 ρ = fX14_doStep_84 (nI s) FU (nI (dA d s)) y3 ρ' ∧ ER P d σ0 ρ0 τ X' σ' ρ' ∧ XD d s X X' ∧ X' 7 s = X 0 (dA d s) ∧ X' 1 s = X 0 (dA d s) ∧ X' 2 s = X 2 s ∧ X' 8 s = X 8 s ∧ X' 9 s ≤ X 9 s + k ∧ (dK d s = 6 → X' 11 s = X' 7 s) := by
  intro k
  induction k with
  | zero =>
    intro n m X σ ρ e1 e2 e3 h h12 h9 h11
    obtain ⟨n, rfl⟩ : ∃ j, n = j + 1 := ⟨n - 1, by omega⟩
    obtain ⟨m, rfl⟩ : ∃ j, m = j + 1 := ⟨m - 1, by omega⟩
    have hW := hB.1
    have hN := hW.n
    have hAs := hW.a hs hk0
    have hAN : dA d s < dN d := by omega
    obtain ⟨T1, h512, _, h1941, _⟩ := h.2.2.2.1 (dA d s) hAN
    obtain ⟨_, _, _, _, _, hl7, hl8⟩ := h.2.2.2.2.1 s hs
    have e : X 7 s = X 0 (dA d s) := by omega
    have b1 : X 0 (dA d s) ≤ X 0 (dA d s) := Nat.le_refl _
    have b0 : s < 12 := by omega
    have b2 : dA d s < 12 := by omega
    have b3 : 0 < 2 := by omega
    refine ⟨_, ρ, upx X 1 s (X 0 (dA d s)), ?_, ?_, h.see0, XD.u (by omega), e, upx_p, rfl, rfl, Nat.le_refl _, h11⟩
    · rw [fX1_lookAtNewRows_22]
      simp (disch := omega) only [e, h512, n_gi, n_cl, n_le, b1, b3, ↓reduceIte, lt_k]
    · rw [fX14_doStep_41]
      simp (disch := omega) only [h1941, hl7, e, i_12, n_gi, n_cl, n_le, b0, b1, b2, ↓reduceIte]
  | succ k ih =>
    intro n m X σ ρ e1 e2 e3 h h12 h9 h11
    obtain ⟨n, rfl⟩ : ∃ j, n = j + 1 := ⟨n - 1, by omega⟩
    obtain ⟨m, rfl⟩ : ∃ j, m = j + 1 := ⟨m - 1, by omega⟩
    have hW := hB.1
    have hN := hW.n
    have hAs := hW.a hs hk0
    have hAN : dA d s < dN d := by omega
    have k7 := (hW.2.2.1 s hs).1
    obtain ⟨T1, h512, _, h1941, _⟩ := h.2.2.2.1 (dA d s) hAN
    obtain ⟨_, _, _, _, _, hl7, hl8⟩ := h.2.2.2.2.1 s hs
    obtain ⟨σ1, v, σ2, σ3, ρ3, X3, u1, u2, u3, u4, u5, u6, u7⟩ := r_row hB h hs hk0 hk5 (Or.inl rfl) (r := X 7 s) (by omega) h12 (by omega) h11
    have b0 : s < 12 := by omega
    have b1 : ¬ X 0 (dA d s) ≤ X 7 s := by omega
    have b2 : dA d s < 12 := by omega
    have b5 : ¬ (nI (dK d s) : Int32) = 5 := fun q => hk5 ((n_eq (by omega) (by omega)).mp q)
    have x0 : X3 0 (dA d s) = X 0 (dA d s) := u7.1 0 _ (by omega) (by decide) (by decide)
    have x7 : X3 7 s = X 7 s := u7.2.1 7 (by decide)
    have x8 : X3 8 s = X 8 s := u7.2.1 8 (by decide)
    have x2 : X3 2 s = X 2 s := u7.2.1 2 (by decide)
    have x9 := u7.2.2.2.2.1
    obtain ⟨_, _, _, _, _, hl73, _⟩ := u6.2.2.2.2.1 s hs
    have h4 := u6.loo0 (s := s) (v := X 7 s + 1)
    obtain ⟨X4, hX4⟩ : ∃ Y, Y = upx X3 7 s (X 7 s + 1) := ⟨_, rfl⟩
    rw [← hX4] at h4
    have y7 : X4 7 s = X 7 s + 1 := by rw [hX4]; exact upx_p
    have yo : ∀ k i, ¬ (k = 7 ∧ i = s) → X4 k i = X3 k i := fun k i q => by rw [hX4]; exact upx_n q
    have y0 : X4 0 (dA d s) = X 0 (dA d s) := (yo _ _ (by omega)).trans x0
    obtain ⟨σ', ρ', X', w1, w2, w3, w4, w5, w6, w7, w8, w9, w10⟩ := ih n m X4 σ3 _ (by omega) (by omega) (by omega) h4 (by rw [yo _ _ (by omega), u7.2.2.1]; exact h12) (by rw [yo 9 s (by omega)]; omega) (fun q => by rw [yo _ _ (by omega), u7.2.2.2.2.2.1 q, h11 q, y7])
    rw [y7] at w1
    have hd : XD d s X X4 := u7.d.tr (by rw [hX4]; exact XD.u (by omega))
    refine ⟨σ', ρ', X', ?_, ?_, w3, hd.tr w4, by omega, by omega, ?_, ?_, ?_, w10⟩
    · rw [fX1_lookAtNewRows_22]
      simp (disch := omega) only [h512, n_le, b1, ↓reduceIte]
      rw [bq_e u1]
      simp only [u2, b5, ↓reduceIte]
      rw [bq_e u3]
      rcases u4 with ⟨rfl, rfl⟩ | ⟨rfl, u4⟩
      · rw [if_pos rfl, i_1, n_add]; exact w1
      · rw [if_neg (by decide), bq_e u4, i_1, n_add]; exact w1
    · rw [fX14_doStep_41]
      simp (disch := omega) only [h1941, hl7, i_12, n_gi, n_cl, n_le, b0, b1, b2, ↓reduceIte, fX14_rowAt, bq_s, i_200, i_7, n_mul, n_add]
      rw [bq_e u5]
      simp (disch := omega) only [hl73, x7, n_gi, n_cl, b0, i_1, n_add, ↓reduceIte, lt_k]
      exact w2
    · rw [w7, yo _ _ (by omega), x2]
    · rw [w8, yo _ _ (by omega), x8]
    · rw [yo 9 s (by omega)] at w9; omega
theorem r_look1 (hB : EB P g d σ0 ρ0) (hs : s < dN d) (hk4 : dK d s = 4) : ∀ (k n m : Nat) (X : Nat → Nat → Nat) (σ ρ : Zs), X 8 s + k = X 0 (dB d s) → k < n → k < m → ER P d σ0 ρ0 τ X σ ρ → X 12 0 = 0 → X 9 s + k ≤ 1000000 →
    ∃ σ' ρ' X', fX1_lookAtNewRows_22 (nI s) P s (nI 1) n P (dB d s) (nI (X 8 s)) σ = some ((), σ') ∧ fX14_doStep_84 (nI s) m (nI (dA d s)) (nI (dB d s)) ρ = fX14_doStep_132 (nI s) (nI (dA d s)) (nI (dB d s)) ρ' ∧ ER P d σ0 ρ0 τ X' σ' ρ' ∧ XD d s X X' ∧ X' 8 s = X 0 (dB d s) ∧ X' 2 s = X 0 (dB d s) ∧ X' 1 s = X 1 s ∧ X' 7 s = X 7 s ∧ X' 9 s ≤ X 9 s + k := by
  intro k
  induction k with
  | zero =>
    intro n m X σ ρ e1 e2 e3 h h12 h9
    obtain ⟨n, rfl⟩ : ∃ j, n = j + 1 := ⟨n - 1, by omega⟩
    obtain ⟨m, rfl⟩ : ∃ j, m = j + 1 := ⟨m - 1, by omega⟩
    have hW := hB.1
    have hN := hW.n
    have hAs := (hW.2.2.1 s hs).2.2.2.2.2.2.1 (Or.inl hk4)
    have hAN : dB d s < dN d := by omega
    obtain ⟨T1, h512, _, h1941, _⟩ := h.2.2.2.1 (dB d s) hAN
    obtain ⟨_, _, _, _, _, hl7, hl8⟩ := h.2.2.2.2.1 s hs
    have e : X 8 s = X 0 (dB d s) := by omega
    have b1 : X 0 (dB d s) ≤ X 0 (dB d s) := Nat.le_refl _
    have b0 : s < 12 := by omega
    have b2 : dB d s < 12 := by omega
    have b3 : 1 < 2 := by omega
    refine ⟨_, ρ, upx X 2 s (X 0 (dB d s)), ?_, ?_, h.see1, XD.u (by omega), e, upx_p, rfl, rfl, Nat.le_refl _⟩
    · rw [fX1_lookAtNewRows_22]
      simp (disch := omega) only [e, h512, n_gi, n_cl, n_le, b1, b3, ↓reduceIte, lt_k]
    · rw [fX14_doStep_84]
      simp (disch := omega) only [h1941, hl8, e, i_1, i_12, n_m1, n_gi, n_cl, n_le, b0, b1, b2, ↓reduceIte]
  | succ k ih =>
    intro n m X σ ρ e1 e2 e3 h h12 h9
    obtain ⟨n, rfl⟩ : ∃ j, n = j + 1 := ⟨n - 1, by omega⟩
    obtain ⟨m, rfl⟩ : ∃ j, m = j + 1 := ⟨m - 1, by omega⟩
    have hW := hB.1
    have hN := hW.n
    have hAs := (hW.2.2.1 s hs).2.2.2.2.2.2.1 (Or.inl hk4)
    have hAN : dB d s < dN d := by omega
    obtain ⟨T1, h512, _, h1941, _⟩ := h.2.2.2.1 (dB d s) hAN
    obtain ⟨_, _, _, _, _, hl7, hl8⟩ := h.2.2.2.2.1 s hs
    obtain ⟨σ1, v, σ2, σ3, ρ3, X3, u1, u2, u3, u4, u5, u6, u7⟩ := r_row hB h hs (by omega) (by omega) (Or.inr ⟨hk4, rfl⟩) (r := X 8 s) (by omega) h12 (by omega) (fun q => by omega)
    have b0 : s < 12 := by omega
    have b1 : ¬ X 0 (dB d s) ≤ X 8 s := by omega
    have b2 : dB d s < 12 := by omega
    have b5 : ¬ (nI (dK d s) : Int32) = 5 := by rw [hk4]; decide
    have x0 : X3 0 (dB d s) = X 0 (dB d s) := u7.1 0 _ (by omega) (by decide) (by decide)
    have x7 : X3 7 s = X 7 s := u7.2.1 7 (by decide)
    have x8 : X3 8 s = X 8 s := u7.2.1 8 (by decide)
    have x1 : X3 1 s = X 1 s := u7.2.1 1 (by decide)
    have x9 := u7.2.2.2.2.1
    obtain ⟨_, _, _, _, _, _, hl83⟩ := u6.2.2.2.2.1 s hs
    have h4 := u6.loo1 (s := s) (v := X 8 s + 1)
    obtain ⟨X4, hX4⟩ : ∃ Y, Y = upx X3 8 s (X 8 s + 1) := ⟨_, rfl⟩
    rw [← hX4] at h4
    have y8 : X4 8 s = X 8 s + 1 := by rw [hX4]; exact upx_p
    have yo : ∀ k i, ¬ (k = 8 ∧ i = s) → X4 k i = X3 k i := fun k i q => by rw [hX4]; exact upx_n q
    have y0 : X4 0 (dB d s) = X 0 (dB d s) := (yo _ _ (by omega)).trans x0
    obtain ⟨σ', ρ', X', w1, w2, w3, w4, w5, w6, w7, w8, w9⟩ := ih n m X4 σ3 _ (by omega) (by omega) (by omega) h4 (by rw [yo _ _ (by omega), u7.2.2.1]; exact h12) (by rw [yo 9 s (by omega)]; omega)
    rw [y8] at w1
    have hd : XD d s X X4 := u7.d.tr (by rw [hX4]; exact XD.u (by omega))
    refine ⟨σ', ρ', X', ?_, ?_, w3, hd.tr w4, by omega, by omega, ?_, ?_, ?_⟩
    · rw [fX1_lookAtNewRows_22]
      simp (disch := omega) only [h512, n_le, b1, ↓reduceIte]
      rw [bq_e u1]
      simp only [u2, b5, ↓reduceIte]
      rw [bq_e u3]
      rcases u4 with ⟨rfl, rfl⟩ | ⟨rfl, u4⟩
      · rw [if_pos rfl, i_1, n_add]; exact w1
      · rw [if_neg (by decide), bq_e u4, i_1, n_add]; exact w1
    · rw [fX14_doStep_84]
      simp (disch := omega) only [h1941, hl8, i_1, i_12, n_m1, n_gi, n_cl, n_le, b0, b1, b2, ↓reduceIte, fX14_rowAt, bq_s, i_200, i_7, n_mul, n_add]
      rw [bq_e u5]
      simp (disch := omega) only [hl83, x8, n_gi, n_cl, b0, i_1, n_add, ↓reduceIte, lt_k]
      exact w2
    · rw [w7, yo _ _ (by omega), x1]
    · rw [w8, yo _ _ (by omega), x7]
    · rw [yo 9 s (by omega)] at w9; omega
/-- joins: a new row of the first input -/
theorem r_jl0 (hB : EB P g d σ0 ρ0) (hs : s < dN d) (hk : dK d s = 5) : ∀ (k n m : Nat) (X : Nat → Nat → Nat) (σ ρ : Zs), X 7 s + k = X 0 (dA d s) → k < n → k < m → ER P d σ0 ρ0 τ X σ ρ → X 2 s = X 8 s → X 8 s ≤ X 0 (dB d s) →
    ∃ σ' ρ' X', fX1_lookAtNewRows_22 (nI s) P s (nI 0) n P (dA d s) (nI (X 7 s)) σ = some ((), σ') ∧ fX14_doJoin_20 (nI s) m (nI (dA d s)) (nI (dB d s)) ρ = fX14_doJoin_89 (nI s) FU (nI (dA d s)) (nI (dB d s)) ρ' ∧ ER P d σ0 ρ0 τ X' σ' ρ' ∧ XD d s X X' ∧ X' 7 s = X 0 (dA d s) ∧ X' 1 s = X 0 (dA d s) ∧ X' 2 s = X 2 s ∧ X' 8 s = X 8 s ∧ X' 9 s = X 9 s := by
  intro k
  induction k with
  | zero =>
    intro n m X σ ρ e1 e2 e3 h h28 h8
    obtain ⟨n, rfl⟩ : ∃ j, n = j + 1 := ⟨n - 1, by omega⟩
    obtain ⟨m, rfl⟩ : ∃ j, m = j + 1 := ⟨m - 1, by omega⟩
    have hW := hB.1
    have hN := hW.n
    have hAs := hW.a hs (by omega)
    have hAN : dA d s < dN d := by omega
    obtain ⟨T1, h512, _, h1941, _⟩ := h.2.2.2.1 (dA d s) hAN
    obtain ⟨_, _, _, _, _, hl7, hl8⟩ := h.2.2.2.2.1 s hs
    have e : X 7 s = X 0 (dA d s) := by omega
    have b1 : X 0 (dA d s) ≤ X 0 (dA d s) := Nat.le_refl _
    have b0 : s < 12 := by omega
    have b2 : dA d s < 12 := by omega
    have b3 : 0 < 2 := by omega
    refine ⟨_, ρ, upx X 1 s (X 0 (dA d s)), ?_, ?_, h.see0, XD.u (by omega), e, upx_p, rfl, rfl, rfl⟩
    · rw [fX1_lookAtNewRows_22]
      simp (disch := omega) only [e, h512, n_gi, n_cl, n_le, b1, b3, ↓reduceIte, lt_k]
    · rw [fX14_doJoin_20]
      simp (disch := omega) only [h1941, hl7, e, i_12, n_gi, n_cl, n_le, b0, b1, b2, ↓reduceIte]
  | succ k ih =>
    intro n m X σ ρ e1 e2 e3 h h28 h8
    obtain ⟨n, rfl⟩ : ∃ j, n = j + 1 := ⟨n - 1, by omega⟩
    obtain ⟨m, rfl⟩ : ∃ j, m = j + 1 := ⟨m - 1, by omega⟩
    have hW := hB.1
    have hN := hW.n
    have hAs := hW.a hs (by omega)
    have hAN : dA d s < dN d := by omega
    obtain ⟨_, _, _, hS1000, _, _, hBs, _, _, _, _, hop, _⟩ := hW.2.2.1 s hs
    have hBs := hBs (Or.inr hk)
    obtain ⟨o1, o2, o3⟩ := hop hk
    have hA6 := hW.w6 hAN
    obtain ⟨T1, h512, _, h1941, _⟩ := h.2.2.2.1 (dA d s) hAN
    obtain ⟨T2, _⟩ := h.2.2.2.1 (dB d s) (by omega)
    obtain ⟨_, _, _, _, _, hl7, hl8⟩ := h.2.2.2.2.1 s hs
    obtain ⟨σ1, t, e4, e5, e6⟩ := at_row hB h hAN (r := X 7 s) (by omega)
    have b0 : s < 12 := by omega
    have b1 : ¬ X 0 (dA d s) ≤ X 7 s := by omega
    have b2 : dA d s < 12 := by omega
    have hC := (hB.fr e5).2.1.2.2.choose_spec.2.2.1 s hs
    have hkk := hC.2.1
    have h453 : zI σ1 453 P s 0 = nI (dY d s) := hC.2.2.2.2.2.2.1 (by omega)
    have h454 : zI σ1 454 P s 0 = nI (dZ d s) := hC.2.2.2.2.2.2.2.1 hk
    obtain ⟨_, _, _, _, h1486, _, _⟩ := e5.2.2.2.2.1 s hs
    rw [hk] at hkk
    have ff : X 8 s < FU := by unfold FU; omega
    obtain ⟨σ3, ρ3, X3, u1, u2, u3, u4⟩ := r_join0 (k20 := fun a b z => fX14_doJoin_20 (nI s) m a b z) hB hs hk (X 8 s) 0 FU FU X σ1 ρ (by omega) ff ff e5 e6 (by omega) h8 rfl
    have x0 : X3 0 (dA d s) = X 0 (dA d s) := u4.e0 (by omega)
    have x0b : X3 0 (dB d s) = X 0 (dB d s) := u4.e0 (by omega)
    have xo : ∀ k i, k ≠ 0 → k ≠ 5 → X3 k i = X k i := fun k i q1 q2 => u4.e q1 q2
    have h4 := u3.loo0 (s := s) (v := X 7 s + 1)
    obtain ⟨X4, hX4⟩ : ∃ Y, Y = upx X3 7 s (X 7 s + 1) := ⟨_, rfl⟩
    rw [← hX4] at h4
    have y7 : X4 7 s = X 7 s + 1 := by rw [hX4]; exact upx_p
    have yo : ∀ k i, ¬ (k = 7 ∧ i = s) → X4 k i = X3 k i := fun k i q => by rw [hX4]; exact upx_n q
    have y0 : X4 0 (dA d s) = X 0 (dA d s) := (yo _ _ (by omega)).trans x0
    have y0b : X4 0 (dB d s) = X 0 (dB d s) := (yo _ _ (by omega)).trans x0b
    have y2 : X4 2 s = X 2 s := (yo _ _ (by omega)).trans (xo _ _ (by omega) (by omega))
    have y8 : X4 8 s = X 8 s := (yo _ _ (by omega)).trans (xo _ _ (by omega) (by omega))
    have y9 : X4 9 s = X 9 s := (yo _ _ (by omega)).trans (xo _ _ (by omega) (by omega))
    obtain ⟨σ', ρ', X', w1, w2, w3, w4, w5, w6, w7, w8, w9⟩ := ih n m X4 σ3 _ (by omega) (by omega) (by omega) h4 (by omega) (by omega)
    rw [y7] at w1
    have hd : XD d s X X4 := u4.d.tr (by rw [hX4]; exact XD.u (by omega))
    refine ⟨σ', ρ', X', ?_, ?_, w3, hd.tr w4, by omega, by omega, by omega, by omega, by omega⟩
    · rw [fX1_lookAtNewRows_22]
      simp (disch := omega) only [h512, n_le, b1, ↓reduceIte]
      rw [bq_e e4]
      have c5 : ((nI 5 : Int32) = 5) = True := eq_true (by decide)
      have c0 : ((nI 0 : Int32) = 0) = True := eq_true (by decide)
      simp only [hkk, c5, c0, ↓reduceIte]
      have hj : fX1_joinNewRow (nI s) P s 1 σ1 = some ((), σ3) := by
        unfold fX1_joinNewRow
        rw [if_neg (by decide)]
        unfold fX1_joinNewRow_11
        have hi : fX1_inputOf P s 1 σ1 = some (some (P, dB d s), σ1) := in_1 hB e5 hs (Or.inr hk)
        rw [bq_e hi]
        have c1 : ¬ (nI 1 : Int32) = 0 := by decide
        have c3 : 1 < 2 := by omega
        simp (disch := omega) only [nn, i_1, c1, c3, n_gi, n_cl, h1486, h454, ↓reduceIte]
        unfold fX1_joinNewRow_60
        rw [if_neg (by decide), h453, bq_e (row_num (by omega)), h28]
        exact u1
      rw [bq_e hj, i_1, n_add]
      exact w1
    · rw [fX14_doJoin_20]
      simp (disch := omega) only [h1941, hl7, i_12, n_gi, n_cl, n_le, b0, b1, b2, ↓reduceIte]
      rw [i_0, u2]
      exact w2
theorem r_jl1 (hB : EB P g d σ0 ρ0) (hs : s < dN d) (hk : dK d s = 5) : ∀ (k n m : Nat) (X : Nat → Nat → Nat) (σ ρ : Zs), X 8 s + k = X 0 (dB d s) → k < n → k < m → ER P d σ0 ρ0 τ X σ ρ →
    ∃ σ' ρ' X', fX1_lookAtNewRows_22 (nI s) P s (nI 1) n P (dB d s) (nI (X 8 s)) σ = some ((), σ') ∧ fX14_doJoin_89 (nI s) m (nI (dA d s)) (nI (dB d s)) ρ = some ((), ρ') ∧ ER P d σ0 ρ0 τ X' σ' ρ' ∧ XD d s X X' ∧ X' 8 s = X 0 (dB d s) ∧ X' 2 s = X 0 (dB d s) ∧ X' 1 s = X 1 s ∧ X' 7 s = X 7 s ∧ X' 9 s = X 9 s := by
  intro k
  induction k with
  | zero =>
    intro n m X σ ρ e1 e2 e3 h
    obtain ⟨n, rfl⟩ : ∃ j, n = j + 1 := ⟨n - 1, by omega⟩
    obtain ⟨m, rfl⟩ : ∃ j, m = j + 1 := ⟨m - 1, by omega⟩
    have hW := hB.1
    have hN := hW.n
    have hAs := (hW.2.2.1 s hs).2.2.2.2.2.2.1 (Or.inr hk)
    have hAN : dB d s < dN d := by omega
    obtain ⟨T1, h512, _, h1941, _⟩ := h.2.2.2.1 (dB d s) hAN
    obtain ⟨_, _, _, _, _, hl7, hl8⟩ := h.2.2.2.2.1 s hs
    have e : X 8 s = X 0 (dB d s) := by omega
    have b1 : X 0 (dB d s) ≤ X 0 (dB d s) := Nat.le_refl _
    have b0 : s < 12 := by omega
    have b2 : dB d s < 12 := by omega
    have b3 : 1 < 2 := by omega
    refine ⟨_, ρ, upx X 2 s (X 0 (dB d s)), ?_, ?_, h.see1, XD.u (by omega), e, upx_p, rfl, rfl, rfl⟩
    · rw [fX1_lookAtNewRows_22]
      simp (disch := omega) only [e, h512, n_gi, n_cl, n_le, b1, b3, ↓reduceIte, lt_k]
    · rw [fX14_doJoin_89]
      simp (disch := omega) only [h1941, hl8, e, i_12, n_gi, n_cl, n_le, b0, b1, b2, ↓reduceIte]
  | succ k ih =>
    intro n m X σ ρ e1 e2 e3 h
    obtain ⟨n, rfl⟩ : ∃ j, n = j + 1 := ⟨n - 1, by omega⟩
    obtain ⟨m, rfl⟩ : ∃ j, m = j + 1 := ⟨m - 1, by omega⟩
    have hW := hB.1
    have hN := hW.n
    have hAs := hW.a hs (by omega)
    obtain ⟨_, _, _, hS1000, _, _, hBs, _, _, _, _, hop, _⟩ := hW.2.2.1 s hs
    have hBs := hBs (Or.inr hk)
    have hBN : dB d s < dN d := by omega
    obtain ⟨o1, o2, o3⟩ := hop hk
    have hB6 := hW.w6 hBN
    obtain ⟨T1, h512, _, h1941, _⟩ := h.2.2.2.1 (dB d s) hBN
    obtain ⟨T2, _⟩ := h.2.2.2.1 (dA d s) (by omega)
    obtain ⟨_, _, _, _, _, hl7, hl8⟩ := h.2.2.2.2.1 s hs
    obtain ⟨σ1, t, e4, e5, e6⟩ := at_row hB h hBN (r := X 8 s) (by omega)
    have b0 : s < 12 := by omega
    have b1 : ¬ X 0 (dB d s) ≤ X 8 s := by omega
    have b2 : dB d s < 12 := by omega
    have hC := (hB.fr e5).2.1.2.2.choose_spec.2.2.1 s hs
    have hkk := hC.2.1
    have h453 : zI σ1 453 P s 0 = nI (dY d s) := hC.2.2.2.2.2.2.1 (by omega)
    have h454 : zI σ1 454 P s 0 = nI (dZ d s) := hC.2.2.2.2.2.2.2.1 hk
    obtain ⟨_, h512a, _, _, _⟩ := e5.2.2.2.1 (dA d s) (by omega)
    rw [hk] at hkk
    have ff : X 0 (dA d s) < FU := by unfold FU; omega
    obtain ⟨σ3, ρ3, X3, u1, u2, u3, u4⟩ := r_join1 (k89 := fun a b z => fX14_doJoin_89 (nI s) m a b z) hB hs hk (X 0 (dA d s)) 0 FU FU X σ1 ρ (by omega) ff ff e5 e6 (by omega) rfl
    have x0 : X3 0 (dB d s) = X 0 (dB d s) := u4.e0 (by omega)
    have xo : ∀ k i, k ≠ 0 → k ≠ 5 → X3 k i = X k i := fun k i q1 q2 => u4.e q1 q2
    have h4 := u3.loo1 (s := s) (v := X 8 s + 1)
    obtain ⟨X4, hX4⟩ : ∃ Y, Y = upx X3 8 s (X 8 s + 1) := ⟨_, rfl⟩
    rw [← hX4] at h4
    have y8 : X4 8 s = X 8 s + 1 := by rw [hX4]; exact upx_p
    have yo : ∀ k i, ¬ (k = 8 ∧ i = s) → X4 k i = X3 k i := fun k i q => by rw [hX4]; exact upx_n q
    have y0 : X4 0 (dB d s) = X 0 (dB d s) := (yo _ _ (by omega)).trans x0
    have y1 : X4 1 s = X 1 s := (yo _ _ (by omega)).trans (xo _ _ (by omega) (by omega))
    have y7 : X4 7 s = X 7 s := (yo _ _ (by omega)).trans (xo _ _ (by omega) (by omega))
    have y9 : X4 9 s = X 9 s := (yo _ _ (by omega)).trans (xo _ _ (by omega) (by omega))
    obtain ⟨σ', ρ', X', w1, w2, w3, w4, w5, w6, w7, w8, w9⟩ := ih n m X4 σ3 _ (by omega) (by omega) (by omega) h4
    rw [y8] at w1
    have hd : XD d s X X4 := u4.d.tr (by rw [hX4]; exact XD.u (by omega))
    refine ⟨σ', ρ', X', ?_, ?_, w3, hd.tr w4, by omega, by omega, by omega, by omega, by omega⟩
    · rw [fX1_lookAtNewRows_22]
      simp (disch := omega) only [h512, n_le, b1, ↓reduceIte]
      rw [bq_e e4]
      have c5 : ((nI 5 : Int32) = 5) = True := eq_true (by decide)
      have c0 : ¬ (nI 1 : Int32) = 0 := by decide
      simp only [hkk, c5, c0, ↓reduceIte]
      have hj : fX1_joinNewRow (nI s) P s 0 σ1 = some ((), σ3) := by
        unfold fX1_joinNewRow
        rw [if_pos rfl]
        unfold fX1_joinNewRow_11
        have hi : fX1_inputOf P s 0 σ1 = some (some (P, dA d s), σ1) := in_0 hB e5 hs (by omega)
        rw [bq_e hi]
        simp only [nn, h512a, h453, ↓reduceIte]
        unfold fX1_joinNewRow_60
        rw [if_pos rfl, h454, bq_e (row_num (by omega))]
        exact u1
      rw [bq_e hj, i_1, n_add]
      exact w1
    · rw [fX14_doJoin_89]
      simp (disch := omega) only [h1941, hl8, i_12, n_gi, n_cl, n_le, b0, b1, b2, ↓reduceIte]
      rw [i_0, u2]
      exact w2
end LP
