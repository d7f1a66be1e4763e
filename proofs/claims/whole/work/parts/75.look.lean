/-! STEPS: a step looks at the new rows of an input -/
def XD (d : Pd) (s : Nat) (X X' : Nat → Nat → Nat) : Prop := (∀ k i, i ≠ s → k ≠ 5 → k ≤ 11 → X' k i = X k i) ∧ X' 3 s = X 3 s ∧ X' 12 0 = X 12 0 ∧ X 0 s ≤ X' 0 s ∧ (∀ k i, k = 15 ∨ k = 16 → ¬ (60 * s ≤ i ∧ i < 60 * s + 60) → X' k i = X k i)
theorem XD.rf {d : Pd} {s : Nat} {X : Nat → Nat → Nat} : XD d s X X := ⟨fun _ _ _ _ _ => rfl, rfl, rfl, Nat.le_refl _, fun _ _ _ _ => rfl⟩
theorem XD.tr {d : Pd} {s : Nat} {X Y Z : Nat → Nat → Nat} (h : XD d s X Y) (k : XD d s Y Z) : XD d s X Z := ⟨fun a i h1 h2 h3 => (k.1 a i h1 h2 h3).trans (h.1 a i h1 h2 h3), k.2.1.trans h.2.1, k.2.2.1.trans h.2.2.1, Nat.le_trans h.2.2.2.1 k.2.2.2.1, fun a i h1 h2 => (k.2.2.2.2 a i h1 h2).trans (h.2.2.2.2 a i h1 h2)⟩
theorem XB.d {d : Pd} {s : Nat} {X Y : Nat → Nat → Nat} (h : XB d s X Y) : XD d s X Y := ⟨h.1, h.2.1 3 (by decide), h.2.2.1, h.2.2.2.1, h.2.2.2.2.2.2⟩
theorem XO.d {d : Pd} {s : Nat} {X Y : Nat → Nat → Nat} (h : XO s X Y) : XD d s X Y := ⟨fun k i e1 e2 _ => h.1 k i (fun q => e1 q.2) e2, h.e (by decide) (by decide), h.e (by decide) (by decide), h.2, fun k i e _ => h.e (by omega) (by omega)⟩
theorem XD.u {d : Pd} {s k v : Nat} {X : Nat → Nat → Nat} (hk : k = 1 ∨ k = 2 ∨ k = 7 ∨ k = 8) : XD d s X (upx X k s v) := by
  refine ⟨fun a i h1 _ _ => if_neg (fun q => h1 q.2), if_neg (by omega), if_neg (by omega), Nat.le_of_eq ?_, fun a i h1 _ => if_neg (by omega)⟩
  exact (if_neg (by omega)).symm
section LK
variable {P g : Nat} {d : Pd} {σ0 ρ0 : Zs} {τ : Prop} {X : Nat → Nat → Nat} {σ ρ : Zs} {s t off a r v : Nat}
theorem ER.see0 (h : ER P d σ0 ρ0 τ X σ ρ) : ER P d σ0 ρ0 τ (upx X 1 s v) (sI σ 1486 P s 0 (nI v)) ρ := by
  refine ⟨h.1, h.2.1.I (by simp [wC]), h.2.2.1, h.2.2.2.1, fun s' hs' => ?_, h.2.2.2.2.2⟩
  obtain ⟨a1, a2, a3, a4, a5, a6, a7⟩ := h.2.2.2.2.1 s' hs'
  refine ⟨a1, a2, a3, ?_, ?_, a6, a7⟩
  · rw [zI_sI]
    by_cases e : s' = s
    · subst e
      rw [if_pos ⟨rfl, rfl, rfl, rfl⟩]
      exact congrArg nI upx_p.symm
    · rw [if_neg (by omega), a4]
      exact congrArg nI (upx_n (fun q => e q.2)).symm
  · rw [zI_sI, if_neg (by omega)]; exact a5
theorem ER.see1 (h : ER P d σ0 ρ0 τ X σ ρ) : ER P d σ0 ρ0 τ (upx X 2 s v) (sI σ 1486 P s 1 (nI v)) ρ := by
  refine ⟨h.1, h.2.1.I (by simp [wC]), h.2.2.1, h.2.2.2.1, fun s' hs' => ?_, h.2.2.2.2.2⟩
  obtain ⟨a1, a2, a3, a4, a5, a6, a7⟩ := h.2.2.2.2.1 s' hs'
  refine ⟨a1, a2, a3, ?_, ?_, a6, a7⟩
  · rw [zI_sI, if_neg (by omega)]; exact a4
  · rw [zI_sI]
    by_cases e : s' = s
    · subst e
      rw [if_pos ⟨rfl, rfl, rfl, rfl⟩]
      exact congrArg nI upx_p.symm
    · rw [if_neg (by omega), a5]
      exact congrArg nI (upx_n (fun q => e q.2)).symm
theorem ER.loo0 (h : ER P d σ0 ρ0 τ X σ ρ) : ER P d σ0 ρ0 τ (upx X 7 s v) σ (sI ρ 1943 0 0 s (nI v)) := by
  refine ⟨h.1, h.2.1, h.2.2.1.I (by decide), h.2.2.2.1, fun s' hs' => ?_, h.2.2.2.2.2⟩
  obtain ⟨a1, a2, a3, a4, a5, a6, a7⟩ := h.2.2.2.2.1 s' hs'
  refine ⟨a1, a2, a3, a4, a5, ?_, a7⟩
  rw [zI_sI]
  by_cases e : s' = s
  · subst e
    rw [if_pos ⟨rfl, rfl, rfl, rfl⟩]
    exact congrArg nI upx_p.symm
  · rw [if_neg (by omega), a6]
    exact congrArg nI (upx_n (fun q => e q.2)).symm
theorem ER.loo1 (h : ER P d σ0 ρ0 τ X σ ρ) : ER P d σ0 ρ0 τ (upx X 8 s v) σ (sI ρ 1944 0 0 s (nI v)) := by
  refine ⟨h.1, h.2.1, h.2.2.1.I (by decide), h.2.2.2.1, fun s' hs' => ?_, h.2.2.2.2.2⟩
  obtain ⟨a1, a2, a3, a4, a5, a6, a7⟩ := h.2.2.2.2.1 s' hs'
  refine ⟨a1, a2, a3, a4, a5, a6, ?_⟩
  rw [zI_sI]
  by_cases e : s' = s
  · subst e
    rw [if_pos ⟨rfl, rfl, rfl, rfl⟩]
    exact congrArg nI upx_p.symm
  · rw [if_neg (by omega), a7]
    exact congrArg nI (upx_n (fun q => e q.2)).symm
/-- the inputs of a step -/
theorem in_0 (hB : EB P g d σ0 ρ0) (h : ER P d σ0 ρ0 τ X σ ρ) (hs : s < dN d) (hk : dK d s ≠ 0) : fX1_inputOf P s (nI 0) σ = some (some (P, dA d s), σ) := by
  obtain ⟨hW, hPC, hPR, hz, hz3, hP⟩ := hB.fr h
  have hC := hPC.2.2.choose_spec.2.2.1 s hs
  have hN := hW.n
  have hA := hW.a hs hk
  have h1476 := hC.2.2.2.2.1
  rw [if_neg hk] at h1476
  have b1 : 0 < 2 := by omega
  have b2 : ¬ dN d ≤ dA d s := by omega
  have b3 : dA d s < 12 := by omega
  unfold fX1_inputOf
  simp (disch := omega) only [i_0, n_gi, n_cl, n_lt, n_le, n_nz, b1, h1476, hz, hPC.1, b2, b3, ↓reduceIte]
theorem in_1 (hB : EB P g d σ0 ρ0) (h : ER P d σ0 ρ0 τ X σ ρ) (hs : s < dN d) (hk : dK d s = 4 ∨ dK d s = 5) : fX1_inputOf P s (nI 1) σ = some (some (P, dB d s), σ) := by
  obtain ⟨hW, hPC, hPR, hz, hz3, hP⟩ := hB.fr h
  have hC := hPC.2.2.choose_spec.2.2.1 s hs
  have hN := hW.n
  have hA : dB d s < s := (hW.2.2.1 s hs).2.2.2.2.2.2.1 hk
  have h1476 := hC.2.2.2.2.2.1
  rw [if_pos hk] at h1476
  have b1 : 1 < 2 := by omega
  have b2 : ¬ dN d ≤ dB d s := by omega
  have b3 : dB d s < 12 := by omega
  unfold fX1_inputOf
  simp (disch := omega) only [i_0, n_gi, n_cl, n_lt, n_le, n_nz, b1, h1476, hz, hPC.1, b2, b3, ↓reduceIte]
theorem in_n (hB : EB P g d σ0 ρ0) (h : ER P d σ0 ρ0 τ X σ ρ) (hs : s < dN d) (hk : ¬ (dK d s = 4 ∨ dK d s = 5)) : fX1_inputOf P s (nI 1) σ = some (none, σ) := by
  obtain ⟨hW, hPC, hPR, hz, hz3, hP⟩ := hB.fr h
  have hC := hPC.2.2.choose_spec.2.2.1 s hs
  have h1476 := hC.2.2.2.2.2.1
  rw [if_neg hk] at h1476
  have b1 : 1 < 2 := by omega
  have b2 : (-1 : Int32) < 0 := by decide
  unfold fX1_inputOf
  simp (disch := omega) only [n_gi, n_cl, b1, h1476, b2, ↓reduceIte]
/-- a row of a table becomes the row at hand -/
theorem at_row (hB : EB P g d σ0 ρ0) (h : ER P d σ0 ρ0 τ X σ ρ) (ha : a < dN d) (hr : r < X 0 a) : ∃ σ1 t, fX8_copyTo P a (nI r) 0 0 σ = some ((), σ1) ∧ ER P d σ0 ρ0 τ X σ1 ρ ∧ InR d σ1 ρ a t ((200 * a + r) * 7) := by
  have hW := hB.1
  have hN := hW.n
  obtain ⟨T2, h512, h513, _, hrows⟩ := h.2.2.2.1 a ha
  obtain ⟨⟨t, q1, q2, q3⟩, q4⟩ := hrows r hr
  have hcp := tab_copy (P := P) (s := a) (i := r) (p2 := 0) (s2 := 0) T2 hr (hW.w6 ha) h512 h513
  rw [q2] at hcp
  refine ⟨_, t, hcp, h.r0, ?_, ?_, q1, by omega, q3, fun c hc => ?_⟩
  · rw [zI_wRow, if_pos ⟨rfl, rfl, rfl, rfl⟩]
  · rw [zI_wRow, if_neg (by omega), if_pos ⟨rfl, rfl, rfl, rfl⟩]
  · rw [zJ_wRow, if_pos ⟨rfl, rfl, rfl⟩, if_pos hc]; exact q4 c hc
/-- what comes of one row of an input -/
theorem r_row (hB : EB P g d σ0 ρ0) (h : ER P d σ0 ρ0 τ X σ ρ) (hs : s < dN d) (hk0 : dK d s ≠ 0) (hk5 : dK d s ≠ 5) (ha : a = dA d s ∨ (dK d s = 4 ∧ a = dB d s)) (hr : r < X 0 a) (h12 : X 12 0 = 0) (h9 : X 9 s < 1000000) (h11 : dK d s = 6 → X 11 s = r) :
    ∃ σ1 v σ2 σ3 ρ3 X3, fX8_copyTo P a (nI r) 0 0 σ = some ((), σ1) ∧ zI σ1 449 P s 0 = nI (dK d s) ∧ fX1_comesOut (nI s) P s P a (nI r) σ1 = some (v, σ2) ∧ ((v = 0 ∧ σ3 = σ2) ∨ (v = 1 ∧ fX1_give (nI s) 2 0 σ2 = some ((), σ3))) ∧ fX14_passOn (nI s) (nI ((200 * a + r) * 7)) ρ = some ((), ρ3) ∧ ER P d σ0 ρ0 τ X3 σ3 ρ3 ∧ XB d s X X3 := by
  have hW := hB.1
  have hN := hW.n
  have hAs := hW.a hs hk0
  have hAN : a < dN d := by
    rcases ha with ha | ⟨k4, ha⟩
    · omega
    · have := (hW.2.2.1 s hs).2.2.2.2.2.2.1 (Or.inl k4)
      omega
  obtain ⟨σ1, t, e1, e2, e3⟩ := at_row hB h hAN hr
  have hc : ∃ v σ2, fX1_comesOut (nI s) P s P a (nI r) σ1 = some (v, σ2) ∧ OutW P d σ0 ρ0 τ X s v σ2 (fX14_passOn (nI s) (nI ((200 * a + r) * 7)) ρ) := by
    have k7 := (hW.2.2.1 s hs).1
    by_cases k4 : dK d s = 4
    · exact c_merge hB e2 hs k4 (by omega) e3
    · have ha : a = dA d s := by omega
      subst ha
      have kk : dK d s = 1 ∨ dK d s = 2 ∨ dK d s = 3 ∨ dK d s = 6 ∨ dK d s = 7 := by omega
      rcases kk with kk | kk | kk | kk | kk
      · exact c_keep hB e2 hs kk e3
      · exact c_make hB e2 hs kk e3
      · exact c_pick hB e2 hs kk e3
      · exact c_first hB e2 hs kk (h11 kk) hr e3
      · exact c_win hB e2 hs kk h12 h9 e3
  have hkk : zI σ1 449 P s 0 = nI (dK d s) := ((hB.fr e2).2.1.2.2.choose_spec.2.2.1 s hs).2.1
  obtain ⟨v, σ2, u1, X2, u2, u3⟩ := hc
  rcases u3 with ⟨w1, ρ', w2, w3⟩ | ⟨w1, ρ1, t2, w2, w3, w4, w5⟩
  · exact ⟨σ1, v, σ2, σ2, ρ', X2, e1, hkk, u1, Or.inl ⟨w1, rfl⟩, w2, w3, u2⟩
  · obtain ⟨σ3, ρ3, X3, x1, x2, x3, x4, _⟩ := r_giveK hB w3 hs w4 w5 (Or.inr (Or.inl rfl))
    refine ⟨σ1, v, σ2, σ3, ρ3, X3, e1, hkk, u1, Or.inr ⟨w1, x1⟩, ?_, x3, u2.o x4⟩
    rw [w2, bq_e x2]
end LK
