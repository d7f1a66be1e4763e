/-! STEPS: where all is looked at, the class's steps change nothing -/
theorem sI_self (z : Zs) (c p s i : Nat) : sI z c p s i (zI z c p s i) = z := by
  refine zs_ext (fun c' p' s' i' => ?_) (fun _ _ _ _ => rfl) (fun _ _ _ _ => rfl)
  rw [zI_sI]
  split
  · rename_i q; obtain ⟨rfl, rfl, rfl, rfl⟩ := q; rfl
  · rfl
theorem moveC_self (z : Zs) (P s y : Nat) : moveC z P s y y = z := by
  refine zs_ext (fun c p' s' i => ?_) (fun c p' s' i => ?_) (fun _ _ _ _ => rfl)
  · unfold moveC
    simp only [zI_jJ, zI_sI, zI_sJ]
    grind
  · unfold moveC
    simp only [zJ_jJ, zJ_sI, zJ_sJ]
    split
    · rename_i q; obtain ⟨rfl, rfl, rfl⟩ := q
      split
      · congr 1; omega
      · rfl
    · split
      · rename_i q; obtain ⟨rfl, rfl, rfl, rfl⟩ := q; rfl
      · rfl
section ST
variable {P g : Nat} {d : Pd} {σ0 ρ0 : Zs} {τ : Prop} {X : Nat → Nat → Nat} {σ ρ : Zs} {s t off a r v E : Nat}
theorem still_gone (hB : EB P g d σ0 ρ0) (h : ER P d σ0 ρ0 τ X σ ρ) (hs : s < dN d) (hw : WSet d X s) : ∀ (k y n : Nat), y + k = X 4 s → k < n → fX10_removeGone_5 P s (wmv (X 3 s)) (nI (dL d s)) n (nI y) (nI y) σ = some ((), σ) := by
  obtain ⟨hW, hPC, hPR, hz, hz3, hP⟩ := hB.fr h
  obtain ⟨_, _, _, hS, hL, _⟩ := hW.2.2.1 s hs
  have hN := hW.n
  obtain ⟨a1, a2, a3, a4, a5⟩ := h.2.2.2.2.2.1 s hs
  obtain ⟨_, _, sn3, _⟩ := h.2.2.2.2.1 s hs
  have hTB : TB s < 2000000 := by unfold TB; omega
  intro k
  induction k with
  | zero =>
    intro y n h1 h2
    obtain ⟨n, rfl⟩ : ∃ j, n = j + 1 := ⟨n - 1, by omega⟩
    have b1 : X 4 s ≤ y := by omega
    have e : sI σ 640 P s 0 (nI y) = σ := by
      have e2 : nI y = zI σ 640 P s 0 := by rw [a3]; exact congrArg nI (by omega)
      rw [e2, sI_self]
    rw [fX10_removeGone_5]
    simp (disch := omega) only [a3, n_le, b1, ↓reduceIte, lt_k, e]
  | succ k ih =>
    intro y n h1 h2
    obtain ⟨n, rfl⟩ : ∃ j, n = j + 1 := ⟨n - 1, by omega⟩
    have b1 : ¬ X 4 s ≤ y := by omega
    have b2 : ¬ 60 ≤ y := by omega
    have b3 : y < 60 := by omega
    obtain ⟨b, z, cl, hb, hcl, w1⟩ := a5 y (by omega)
    obtain ⟨e1, e2, e3, e4, e5, e6, _⟩ := w1
    have hw2 := (hw y (by omega)).2
    rw [← hb] at hw2
    have c1 : ¬ (nI (b + dS d s) + nI (dL d s) ≤ wmv (X 3 s)) := by
      rw [n_add, wm_le (by omega) (by omega)]; omega
    rw [fX10_removeGone_5]
    simp (disch := omega) only [a3, i_60, n_le, n_gi, n_cl, b1, b2, b3, e3, c1, ↓reduceIte]
    rw [bq_e (mv_C (by omega) (Nat.le_refl _) e6 e5), moveC_self, i_1, n_add]
    exact ih (y + 1) n (by omega) (by omega)
theorem still_close (hB : EB P g d σ0 ρ0) (h : ER P d σ0 ρ0 τ X σ ρ) (hs : s < dN d) (hk7 : dK d s = 7) (hw : WSet d X s) : fX1_closeWindows (nI s) P s σ = some ((), σ) := by
  obtain ⟨hW, hPC, hPR, hz, hz3, hP⟩ := hB.fr h
  have hC := hPC.2.2.choose_spec.2.2.1 s hs
  have h456 : zI σ 456 P s 0 = nI (dL d s) := hC.2.2.2.2.2.2.2.2.2.1 hk7
  obtain ⟨a1, a2, a3, a4, a5⟩ := h.2.2.2.2.2.1 s hs
  obtain ⟨sn1, _, sn3, _⟩ := h.2.2.2.2.1 s hs
  have ff : X 4 s < FU := by unfold FU; omega
  obtain ⟨B', u1, _, u3, u4⟩ := r_next_l (k2 := fun _ _ => none) hB h hs hk7 (X 4 s) 0 FU FU none (by omega) ff ff (fun v q => by cases q) (fun _ v q => by omega)
  cases B' with
  | some v =>
    obtain ⟨q1, q2, q3⟩ := u3 v rfl
    rcases (hw v q1).1 with q | q
    · exact absurd q2 q
    · omega
  | none =>
    have hn : fX10_closeNext P s (wmv (X 3 s)) σ = some (-nI 1, σ) := by
      unfold fX10_closeNext
      exact u1
    have hg : fX10_removeGone P s (wmv (X 3 s)) (nI (dL d s)) σ = some ((), σ) := by
      unfold fX10_removeGone
      exact still_gone hB h hs hw (X 4 s) 0 FU (by omega) ff
    obtain ⟨n, hfn⟩ : ∃ n, FU = n + 1 := ⟨FU - 1, by unfold FU; omega⟩
    unfold fX1_closeWindows
    rw [hfn, fX1_closeWindows_2]
    have c1 : ¬ (60 : Int32) ≤ 0 := by decide
    have c2 : ¬ (0 : Int32) ≤ -nI 1 := by decide
    rw [if_neg c1, sn1, bq_e hn, if_neg c2, sn1, h456, bq_e hg]
theorem still_look {x a i : Nat} (hx : x < 2) (hi : fX1_inputOf P s (nI x) σ = some (some (P, a), σ)) (h1 : zI σ 512 P a 0 = nI v) (h2 : zI σ 1486 P s x = nI v) : fX1_lookAtNewRows (nI s) P s (nI x) σ = some ((), σ) := by
  obtain ⟨n, hfn⟩ : ∃ n, FU = n + 1 := ⟨FU - 1, by unfold FU; omega⟩
  unfold fX1_lookAtNewRows
  rw [bq_e hi]
  simp (disch := omega) only [nn, n_gi, n_cl, hx, ↓reduceIte]
  rw [hfn, fX1_lookAtNewRows_22, h1, h2, if_pos (Int32.le_refl _)]
  simp (disch := omega) only [n_gi, n_cl, hx, ↓reduceIte, lt_k]
  rw [← h2, sI_self]
theorem still_step (hB : EB P g d σ0 ρ0) (h : ER P d σ0 ρ0 τ X σ ρ) (hs : s < dN d) (hk0 : dK d s ≠ 0) (hr : Rdy d E X s) (hf : Fin7 d X s) :
    (bq (fX1_lookAtNewRows (nI s) P s 0 σ) fun _ σ6 => bq (fX1_lookAtNewRows (nI s) P s 1 σ6) fun _ σ10 => bq (fX1_leastWatermark P s σ10) fun v13 σ14 => lt (sI σ14 461 P s 0 v13) fun σ17 => if zI σ17 449 P s 0 = 7 then fX1_closeWindows (nI s) P s σ17 else some ((), σ17)) = some ((), σ) := by
  obtain ⟨hW, hPC, hPR, hz, hz3, hP⟩ := hB.fr h
  have hC := hPC.2.2.choose_spec.2.2.1 s hs
  have hN := hW.n
  have hAs := hW.a hs hk0
  have k7 := (hW.2.2.1 s hs).1
  have h449 := hC.2.1
  obtain ⟨r1, r2, r3, r4, r5, r6, r7, r8, r9⟩ := hr
  obtain ⟨f1, f2, f3, f4⟩ := hf
  obtain ⟨sn1, _, sn3, s486, s486b, _⟩ := h.2.2.2.2.1 s hs
  obtain ⟨wa1, _, wa3, _⟩ := h.2.2.2.2.1 (dA d s) (by omega)
  obtain ⟨_, hA512, _⟩ := h.2.2.2.1 (dA d s) (by omega)
  have hi0 := in_0 hB h hs hk0
  have l0 : fX1_lookAtNewRows (nI s) P s 0 σ = some ((), σ) := still_look (x := 0) (i := 0) (by omega) hi0 hA512 (by rw [s486]; exact congrArg nI (by omega))
  have l1 : fX1_lookAtNewRows (nI s) P s 1 σ = some ((), σ) := by
    by_cases k : dK d s = 4 ∨ dK d s = 5
    · have hBs := (hW.2.2.1 s hs).2.2.2.2.2.2.1 k
      obtain ⟨_, hB512, _⟩ := h.2.2.2.1 (dB d s) (by omega)
      have := f2 k
      exact still_look (x := 1) (i := 0) (by omega) (in_1 hB h hs k) hB512 (by rw [s486b]; exact congrArg nI (by omega))
    · have hi1 : fX1_inputOf P s 1 σ = some (none, σ) := in_n hB h hs k
      unfold fX1_lookAtNewRows
      rw [bq_e hi1]
      simp only [nn]
  have hlw : fX1_leastWatermark P s σ = some (wmv (X 3 s), σ) := by
    have hi0' : fX1_inputOf P s 0 σ = some (some (P, dA d s), σ) := hi0
    unfold fX1_leastWatermark
    rw [bq_e hi0']
    simp only [nn]
    by_cases k : dK d s = 4 ∨ dK d s = 5
    · have hi1 : fX1_inputOf P s 1 σ = some (some (P, dB d s), σ) := in_1 hB h hs k
      obtain ⟨wb1, wb2, wb3, _⟩ := h.2.2.2.2.1 (dB d s) (by have := (hW.2.2.1 s hs).2.2.2.2.2.2.1 k; omega)
      rw [bq_e hi1]
      simp only [wa1, wb1]
      rw [wm_min (by omega) (by omega), f3, if_pos k]
    · have hi1 : fX1_inputOf P s 1 σ = some (none, σ) := in_n hB h hs k
      rw [bq_e hi1]
      simp only [wa1]
      rw [f3, if_neg k]
  have es : sI σ 461 P s 0 (wmv (X 3 s)) = σ := by rw [← sn1, sI_self]
  rw [bq_e l0, bq_e l1, bq_e hlw, lt_k, es, h449]
  by_cases q : dK d s = 7
  · rw [if_pos (by rw [q]; decide)]
    exact still_close hB h hs q (f4 q)
  · rw [if_neg (by rw [i_7, n_eq (by omega) (by omega)]; exact q)]
theorem still_steps (hB : EB P g d σ0 ρ0) (h : ER P d σ0 ρ0 τ X σ ρ) (hG : Good d E X) (hF : Setl d X) : fX1_runSteps σ = some ((), σ) := by
  have hN := hB.1.1
  have ff : dN d < FU := by unfold FU; omega
  obtain ⟨hW, hPC, hPR, hz, hz3, hP⟩ := hB.fr h
  have main : ∀ (k y n : Nat), y + k = dN d → k < n → fX1_runSteps_2 n (nI y) σ = some ((), σ) := by
    intro k
    induction k with
    | zero =>
      intro y n h1 h2
      obtain ⟨n, rfl⟩ : ∃ j, n = j + 1 := ⟨n - 1, by omega⟩
      have b1 : dN d ≤ y := by omega
      rw [fX1_runSteps_2]
      simp (disch := omega) only [hz, hPC.1, n_le, b1, ↓reduceIte]
    | succ k ih =>
      intro y n h1 h2
      obtain ⟨n, rfl⟩ : ∃ j, n = j + 1 := ⟨n - 1, by omega⟩
      have hs : y < dN d := by omega
      have hC := hPC.2.2.choose_spec.2.2.1 y hs
      have h449 := hC.2.1
      have k7 := (hW.2.2.1 y hs).1
      have b0 : y < 12 := by omega
      have b1 : ¬ dN d ≤ y := by omega
      rw [fX1_runSteps_2]
      simp (disch := omega) only [hz, hPC.1, n_le, n_gi, n_cl, b0, b1, h449, ↓reduceIte]
      by_cases q : dK d y = 0
      · have c0 : (nI (dK d y) : Int32) = 0 := by rw [q]; rfl
        simp only [c0, ↓reduceIte, i_1, n_add]
        exact ih (y + 1) n (by omega) (by omega)
      · have c0 : ¬ (nI (dK d y) : Int32) = 0 := by
          rw [i_0, n_eq (by omega) (by omega)]; exact q
        have u1 := still_step hB h hs q (hG.2 y hs q) (hF y hs q)
        simp only [c0, ↓reduceIte]
        have hK : ∀ K : Zs → Option (Unit × Zs), (bq (fX1_lookAtNewRows (nI y) P y 0 σ) fun _ σ6 => bq (fX1_lookAtNewRows (nI y) P y 1 σ6) fun _ σ10 => bq (fX1_leastWatermark P y σ10) fun v13 σ14 => lt (sI σ14 461 P y 0 v13) fun σ17 => if zI σ17 449 P y 0 = 7 then (bq (fX1_closeWindows (nI y) P y σ17) fun _ σ20 => K σ20) else K σ17) = K σ := by
          intro K
          have := congrArg (fun o => bq o fun _ z => K z) u1
          simp only [bq_bq, lt_k, bq_ite, bq_s] at this
          simp only [lt_k]
          exact this
        rw [i_1, n_add]
        have := hK (fun z => fX1_runSteps_2 n (nI (y + 1)) z)
        rw [i_1] at this
        rw [this]
        exact ih (y + 1) n (by omega) (by omega)
  exact main (dN d) 0 FU (by omega) ff
end ST
