/-! WINDOWS ARE CLOSED: both sides -/
/-- nothing of step s is to be closed, nothing is gone -/
def WSet (d : Pd) (X : Nat → Nat → Nat) (s : Nat) : Prop := ∀ w, w < X 4 s → (X 15 (60 * s + w) ≠ 0 ∨ X 3 s ≤ X 16 (60 * s + w) + dS d s) ∧ X 3 s ≤ X 16 (60 * s + w) + dS d s + dL d s
def XC (s : Nat) (X X' : Nat → Nat → Nat) : Prop := (∀ k i, ¬ (k = 0 ∧ i = s) → k ≠ 5 → ¬ (k = 4 ∧ i = s) → k ≤ 14 → X' k i = X k i) ∧ X 0 s ≤ X' 0 s ∧ (∀ k i, k = 15 ∨ k = 16 → ¬ (60 * s ≤ i ∧ i < 60 * s + 60) → X' k i = X k i)
theorem XC.rf {s : Nat} {X : Nat → Nat → Nat} : XC s X X := ⟨fun _ _ _ _ _ _ => rfl, Nat.le_refl _, fun _ _ _ _ => rfl⟩
theorem XC.tr {s : Nat} {X Y Z : Nat → Nat → Nat} (h : XC s X Y) (k : XC s Y Z) : XC s X Z := ⟨fun a i h1 h2 h3 h4 => (k.1 a i h1 h2 h3 h4).trans (h.1 a i h1 h2 h3 h4), Nat.le_trans h.2.1 k.2.1, fun a i h1 h2 => (k.2.2 a i h1 h2).trans (h.2.2 a i h1 h2)⟩
theorem XO.c {s : Nat} {X Y : Nat → Nat → Nat} (h : XO s X Y) : XC s X Y := ⟨fun a i h1 h2 _ _ => h.1 a i h1 h2, h.2, fun a i h1 _ => h.1 a i (by omega) (by omega)⟩
section CW
variable {P g : Nat} {d : Pd} {σ0 ρ0 : Zs} {τ : Prop} {X : Nat → Nat → Nat} {σ ρ : Zs} {s : Nat}
theorem upm_C {y k : Nat} (hk : k < 60) : XC s X (upm X s y k) := by
  refine ⟨fun a i h1 h2 h3 h4 => ?_, Nat.le_refl _, fun a i h1 h2 => ?_⟩
  · unfold upm upx
    rw [if_neg (by omega), if_neg (by omega)]
  · unfold upm upx
    rw [if_neg (by omega), if_neg (by omega)]
theorem r_gone_l (hB : EB P g d σ0 ρ0) (hs : s < dN d) (hk7 : dK d s = 7) : ∀ (k y kept n m : Nat) (X : Nat → Nat → Nat) (σ ρ : Zs), y + k = X 4 s → kept ≤ y → k < n → k < m → X 12 0 = 0 → (∀ v, v < kept → (X 15 (60 * s + v) ≠ 0 ∨ X 3 s ≤ X 16 (60 * s + v) + dS d s) ∧ X 3 s ≤ X 16 (60 * s + v) + dS d s + dL d s) → (∀ v, y ≤ v → v < X 4 s → (X 15 (60 * s + v) ≠ 0 ∨ X 3 s ≤ X 16 (60 * s + v) + dS d s)) → ER P d σ0 ρ0 τ X σ ρ →
    Wp2 (fX10_removeGone_5 P s (wmv (X 3 s)) (nI (dL d s)) n (nI kept) (nI y) σ) (fX14_closeWindows_173 (nI s) m (nI kept) (nI y) ρ) (fun _ σ' _ ρ' => ∃ X', ER P d σ0 ρ0 τ X' σ' ρ' ∧ XC s X X' ∧ WSet d X' s) := by
  intro k
  induction k with
  | zero =>
    intro y kept n m X σ ρ h1 h2 h3 h4 h12 h5 h6 h
    obtain ⟨n, rfl⟩ : ∃ j, n = j + 1 := ⟨n - 1, by omega⟩
    obtain ⟨m, rfl⟩ : ∃ j, m = j + 1 := ⟨m - 1, by omega⟩
    obtain ⟨hW, hPC, hPR, hz, hz3, hP⟩ := hB.fr h
    have hN := hW.n
    obtain ⟨a1, a2, a3, a4, a5⟩ := h.2.2.2.2.2.1 s hs
    have b0 : s < 12 := by omega
    have b1 : X 4 s ≤ y := by omega
    rw [fX10_removeGone_5, fX14_closeWindows_173]
    simp (disch := omega) only [a3, a4, i_12, n_le, n_gi, n_cl, b0, b1, ↓reduceIte, lt_k]
    refine ⟨upx X 4 s kept, h.trunc hs (by omega), ⟨fun a i q1 q2 q3 q4 => if_neg q3, Nat.le_refl _, fun a i q1 q2 => if_neg (by omega)⟩, fun w hw => ?_⟩
    have e4 : upx X 4 s kept 4 s = kept := if_pos ⟨rfl, rfl⟩
    rw [e4] at hw
    exact h5 w hw
  | succ k ih =>
    intro y kept n m X σ ρ h1 h2 h3 h4 h12 h5 h6 h
    obtain ⟨n, rfl⟩ : ∃ j, n = j + 1 := ⟨n - 1, by omega⟩
    obtain ⟨m, rfl⟩ : ∃ j, m = j + 1 := ⟨m - 1, by omega⟩
    obtain ⟨hW, hPC, hPR, hz, hz3, hP⟩ := hB.fr h
    have hN := hW.n
    have hR := hPR.2.2.1 s hs
    have hL := (hW.2.2.1 s hs).2.2.2.2.1
    have h1799 : zI ρ 1799 g 0 s = nI (dS d s) := hR.2.2.2.2.2.2.2.2.1 (Or.inr (by omega))
    have h1800 : zI ρ 1800 g 0 s = nI (dL d s) := hR.2.2.2.2.2.2.2.2.2.1 hk7
    obtain ⟨a1, a2, a3, a4, a5⟩ := h.2.2.2.2.2.1 s hs
    obtain ⟨sn1, sn2, sn3, _⟩ := h.2.2.2.2.1 s hs
    have hTB2 : TB s < 2000000 := by unfold TB; omega
    have b0 : s < 12 := by omega
    have b1 : ¬ X 4 s ≤ y := by omega
    have b2 : ¬ 60 ≤ y := by omega
    have b3 : y < 60 := by omega
    obtain ⟨b, z, cl, hb0, hc0, k1, k2, k3, k4, k5, k6, k7, _⟩ := a5 y (by omega)
    have hendy := end_R b0 b3 hz3 h1799 k4
    rw [fX10_removeGone_5, fX14_closeWindows_173]
    have c5 : wmv (X 3 s) < nI (b + dS d s + dL d s) ↔ X 3 s ≤ b + dS d s + dL d s := wm_lt (by omega) (by omega)
    have c6 : nI (b + dS d s + dL d s) ≤ wmv (X 3 s) ↔ b + dS d s + dL d s + 1 ≤ X 3 s := wm_le (by omega) (by omega)
    simp (disch := omega) only [a3, a4, k3, i_12, i_60, n_le, n_gi, n_cl, n_add, b0, b1, b2, b3, c6, ↓reduceIte]
    rw [bq_e hendy]
    simp (disch := omega) only [sn2, hz3, h1800, i_12, n_gi, n_cl, n_add, b0, c5, ↓reduceIte]
    by_cases e : X 3 s ≤ b + dS d s + dL d s
    · have e2 : ¬ b + dS d s + dL d s + 1 ≤ X 3 s := by omega
      simp only [e, e2, ↓reduceIte]
      rw [bq_e (mv_C b3 h2 k6 k5), bq_e (mv_R b0 b3 (by omega) k7 k5), i_1, n_add, n_add]
      have hM := h.move hN (fun s hs => hW.w6 hs) h12 hs (by omega : y < X 4 s) h2
      have m15 : ∀ v, upm X s y kept 15 (60 * s + v) = if v = kept then X 15 (60 * s + y) else X 15 (60 * s + v) := by
        intro v
        show (if 15 = 15 ∧ 60 * s + v = 60 * s + kept then _ else _) = _
        by_cases q : v = kept
        · rw [if_pos ⟨rfl, by omega⟩, if_pos q]
        · rw [if_neg (by omega), if_neg q]
      have m16 : ∀ v, upm X s y kept 16 (60 * s + v) = if v = kept then X 16 (60 * s + y) else X 16 (60 * s + v) := by
        intro v
        show (if 16 = 16 ∧ 60 * s + v = 60 * s + kept then _ else _) = _
        by_cases q : v = kept
        · rw [if_pos ⟨rfl, by omega⟩, if_pos q]
        · rw [if_neg (by omega), if_neg q]; rfl
      have hy6 := h6 y (Nat.le_refl _) (by omega)
      refine w2_m (ih (y + 1) (kept + 1) n m (upm X s y kept) _ _ (by show y + 1 + k = X 4 s; omega) (by omega) (by omega) (by omega) h12 (fun v hv => ?_) (fun v v1 v2 => ?_) hM) ?_
      · rw [m15, m16]
        by_cases q : v = kept
        · rw [if_pos q, if_pos q]
          exact ⟨hy6, by rw [← hb0]; exact e⟩
        · rw [if_neg q, if_neg q]
          exact h5 v (by omega)
      · have v2' : v < X 4 s := v2
        rw [m15, m16, if_neg (by omega), if_neg (by omega)]
        exact h6 v (by omega) v2'
      · rintro _ σ' _ ρ' ⟨X', x1, x2, x3⟩
        exact ⟨X', x1, (upm_C (by omega)).tr x2, x3⟩
    · have e2 : b + dS d s + dL d s + 1 ≤ X 3 s := by omega
      simp only [e, e2, ↓reduceIte]
      rw [i_1, n_add]
      exact ih (y + 1) kept n m X σ ρ (by omega) (by omega) (by omega) (by omega) h12 h5 (fun v v1 v2 => h6 v (by omega) v2) h
theorem r_gone (hB : EB P g d σ0 ρ0) (h : ER P d σ0 ρ0 τ X σ ρ) (hs : s < dN d) (hk7 : dK d s = 7) (h12 : X 12 0 = 0) (hno : ∀ v, v < X 4 s → ¬ cnd d X s v) :
    Wp2 (fX10_removeGone P s (wmv (X 3 s)) (nI (dL d s)) σ) (fX14_closeWindows_173 (nI s) FU (nI 0) (nI 0) ρ) (fun _ σ' _ ρ' => ∃ X', ER P d σ0 ρ0 τ X' σ' ρ' ∧ XC s X X' ∧ WSet d X' s) := by
  unfold fX10_removeGone
  have h60 := (h.2.2.2.2.2.1 s hs).1
  have hf : X 4 s < FU := by unfold FU; omega
  refine r_gone_l hB hs hk7 (X 4 s) 0 0 FU FU X σ ρ (by omega) (Nat.le_refl _) hf hf h12 (fun v hv => absurd hv (Nat.not_lt_zero v)) (fun v _ hv => ?_) h
  have := hno v hv
  unfold cnd at this
  omega
theorem r_close_l (hB : EB P g d σ0 ρ0) (hs : s < dN d) (hk7 : dK d s = 7) : ∀ (k y n m : Nat) (X : Nat → Nat → Nat) (σ ρ : Zs), opn X s (X 4 s) ≤ k → y + k ≤ 60 → k < n → k + 1 < m → X 12 0 = 0 → ER P d σ0 ρ0 τ X σ ρ →
    Wp2 (fX1_closeWindows_2 (nI s) P s n (nI y) σ) (fX14_closeWindows_2 (nI s) m (nI 1) ρ) (fun _ σ' _ ρ' => ∃ X', ER P d σ0 ρ0 τ X' σ' ρ' ∧ XC s X X' ∧ WSet d X' s) := by
  intro k
  induction k with
  | zero =>
    intro y n m X σ ρ h1 h2 h3 h4 h12 h
    obtain ⟨n, rfl⟩ : ∃ j, n = j + 1 := ⟨n - 1, by omega⟩
    obtain ⟨m, rfl⟩ : ∃ j, m = j + 1 + 1 := ⟨m - 2, by omega⟩
    obtain ⟨hW, hPC, hPR, hz, hz3, hP⟩ := hB.fr h
    have hC := hPC.2.2.choose_spec.2.2.1 s hs
    have h456 : zI σ 456 P s 0 = nI (dL d s) := hC.2.2.2.2.2.2.2.2.2.1 hk7
    obtain ⟨sn1, sn2, sn3, _⟩ := h.2.2.2.2.1 s hs
    have h60 := (h.2.2.2.2.2.1 s hs).1
    have hf : X 4 s < FU := by unfold FU; omega
    have q1 : ¬ (nI 1 : Int32) = 0 := by decide
    have hno : ∀ v, v < X 4 s → ¬ cnd d X s v := by
      intro v hv hc
      have := opn_close (X := X) (s := s) hc.2.1 (X 4 s) hv
      omega
    obtain ⟨B', u1, u2, u3, u4⟩ := r_next_l (k2 := fun by2 ρb => fX14_closeWindows_2 (nI s) (m + 1) by2 ρb) hB h hs hk7 (X 4 s) 0 FU FU none (by omega) hf hf (fun v q => by cases q) (fun _ v hv => absurd hv (Nat.not_lt_zero v))
    have eB : B' = none := by
      cases B' with
      | none => rfl
      | some v => exact absurd (u3 v rfl) (hno v (u3 v rfl).1)
    subst eB
    rw [fX14_closeWindows_2, if_neg q1]
    refine Eq.mpr (congrArg (fun r => Wp2 _ r _) u2) ?_
    show Wp2 _ (fX14_closeWindows_2 (nI s) (m + 1) 0 ρ) _
    rw [fX14_closeWindows_2, if_pos rfl]
    have hG := r_gone hB h hs hk7 h12 hno
    rw [fX1_closeWindows_2]
    by_cases e : 60 ≤ y
    · simp (disch := omega) only [i_60, n_le, e, ↓reduceIte, sn1, h456]
      exact w2_l (wp_m hG fun _ _ q => q)
    · simp (disch := omega) only [i_60, n_le, e, ↓reduceIte, sn1, h456]
      rw [bq_e (show fX10_closeNext P s (wmv (X 3 s)) σ = some (-nI 1, σ) from u1)]
      have q2 : ¬ (0 : Int32) ≤ -nI 1 := by decide
      simp (disch := omega) only [q2, ↓reduceIte, sn1, h456]
      exact w2_l (wp_m hG fun _ _ q => q)
  | succ k ih =>
    intro y n m X σ ρ h1 h2 h3 h4 h12 h
    obtain ⟨n, rfl⟩ : ∃ j, n = j + 1 := ⟨n - 1, by omega⟩
    obtain ⟨m, rfl⟩ : ∃ j, m = j + 1 + 1 := ⟨m - 2, by omega⟩
    obtain ⟨hW, hPC, hPR, hz, hz3, hP⟩ := hB.fr h
    have hN := hW.n
    have hC := hPC.2.2.choose_spec.2.2.1 s hs
    have h456 : zI σ 456 P s 0 = nI (dL d s) := hC.2.2.2.2.2.2.2.2.2.1 hk7
    obtain ⟨sn1, sn2, sn3, _⟩ := h.2.2.2.2.1 s hs
    have h60 := (h.2.2.2.2.2.1 s hs).1
    have hf : X 4 s < FU := by unfold FU; omega
    have q1 : ¬ (nI 1 : Int32) = 0 := by decide
    obtain ⟨B', u1, u2, u3, u4⟩ := r_next_l (k2 := fun by2 ρb => fX14_closeWindows_2 (nI s) (m + 1) by2 ρb) hB h hs hk7 (X 4 s) 0 FU FU none (by omega) hf hf (fun v q => by cases q) (fun _ v hv => absurd hv (Nat.not_lt_zero v))
    rw [fX14_closeWindows_2, if_neg q1]
    refine Eq.mpr (congrArg (fun r => Wp2 _ r _) u2) ?_
    rw [fX1_closeWindows_2]
    have e : ¬ 60 ≤ y := by omega
    simp (disch := omega) only [i_60, n_le, e, ↓reduceIte, sn1]
    cases B' with
    | none =>
      show Wp2 _ (fX14_closeWindows_2 (nI s) (m + 1) 0 ρ) _
      rw [fX14_closeWindows_2, if_pos rfl]
      have hG := r_gone hB h hs hk7 h12 (u4 rfl)
      rw [bq_e (show fX10_closeNext P s (wmv (X 3 s)) σ = some (-nI 1, σ) from u1)]
      have q2 : ¬ (0 : Int32) ≤ -nI 1 := by decide
      simp (disch := omega) only [q2, ↓reduceIte, sn1, h456]
      exact w2_l (wp_m hG fun _ _ q => q)
    | some v =>
      have hv := u3 v rfl
      have hv4 := hv.1
      rw [bq_e (show fX10_closeNext P s (wmv (X 3 s)) σ = some (nI v, sI σ 1667 P s v 1) from u1)]
      have q2 : (0 : Int32) ≤ nI v := nI_pos' (by omega)
      simp only [q2, ↓reduceIte]
      have hF := h.flag hN hs hv4
      obtain ⟨σ1, ρ1, t1, w1, w2, w3, w4, w5, w6⟩ := r_wrow hB hF hs hk7 h12 hv4
      rw [bq_e w1]
      show Wp2 _ (bq (fX14_offerWindow (nI s) (nI v) (sI ρ 1961 0 0 (60 * s + v) 1)) fun _ z => fX14_closeWindows_2 (nI s) (m + 1) 1 z) _
      rw [w2]
      have hG := r_give hB w4 hs w5 w6 (Or.inr (Or.inl rfl))
      obtain ⟨a1, σ2, a2, ρ2, g1, g2, X2, g3, g4⟩ := w2_ex hG
      rw [bq_e g1, bq_e (bq_e g2), i_1, n_add]
      have e4 : X2 4 s = X 4 s := g4.e (by decide) (by decide)
      have h1' : opn X2 s (X2 4 s) ≤ k := by
        rw [e4, opn_eq (X := upx X 15 (60 * s + v) 1) (X 4 s) (fun w _ => g4.e (by decide) (by decide))]
        have := opn_close (X := X) (s := s) hv.2.1 (X 4 s) hv4
        omega
      refine w2_m (ih (y + 1) n (m + 1) X2 σ2 ρ2 h1' (by omega) (by omega) (by omega) ((g4.e (by decide) (by decide)).trans h12) g3) ?_
      rintro _ σ' _ ρ' ⟨X', x1, x2, x3⟩
      refine ⟨X', x1, XC.tr ?_ (g4.c.tr x2), x3⟩
      exact ⟨fun a i _ _ _ h4 => if_neg (by omega), Nat.le_refl _, fun a i _ hi => if_neg (by omega)⟩
theorem r_close (hB : EB P g d σ0 ρ0) (h : ER P d σ0 ρ0 τ X σ ρ) (hs : s < dN d) (hk7 : dK d s = 7) (h12 : X 12 0 = 0) :
    Wp2 (fX1_closeWindows (nI s) P s σ) (fX14_closeWindows (nI s) ρ) (fun _ σ' _ ρ' => ∃ X', ER P d σ0 ρ0 τ X' σ' ρ' ∧ XC s X X' ∧ WSet d X' s) := by
  unfold fX1_closeWindows fX14_closeWindows
  have h60 := (h.2.2.2.2.2.1 s hs).1
  have := opn_le (X := X) (s := s) (X 4 s)
  exact r_close_l hB hs hk7 60 0 FU FU X σ ρ (by omega) (by omega) (by unfold FU; omega) (by unfold FU; omega) h12 h
end CW
