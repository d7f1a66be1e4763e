/-! STEPS: make, window -/
section MK
variable {P g : Nat} {d : Pd} {σ0 ρ0 : Zs} {τ : Prop} {X : Nat → Nat → Nat} {σ ρ : Zs} {s t off a : Nat} {pa sa : Nat} {x4 : Int32}
theorem c_make_l (hB : EB P g d σ0 ρ0) (hs : s < dN d) (hk : dK d s = 2) (hoff : off + 7 ≤ 16800) : ∀ (k y n m : Nat) (σ ρ : Zs), y + k = dW d s → dW d (dA d s) ≤ y → k < n → k < m → ER P d σ0 ρ0 τ X σ ρ → RowR 0 0 σ 1940 0 0 off (dW d (dA d s)) ρ → RW 2 0 t y σ ρ →
    ∃ σ' ρ', fX1_comesOut_113 (nI s) P s pa sa x4 n (nI y) σ = some (1, σ') ∧ fX14_passOn_84 (nI s) (nI off) m (nI y) ρ = bq (fX14_offer (nI s) ρ') (fun _ z => some ((), z)) ∧ ER P d σ0 ρ0 τ X σ' ρ' ∧ RW 2 0 t (dW d s) σ' ρ' := by
  intro k
  induction k with
  | zero =>
    intro y n m σ ρ h1 h0 h2 h3 h hr hR
    obtain ⟨n, rfl⟩ : ∃ j, n = j + 1 := ⟨n - 1, by omega⟩
    obtain ⟨m, rfl⟩ : ∃ j, m = j + 1 := ⟨m - 1, by omega⟩
    obtain ⟨hW, hPC, hPR, hz, hz3, hP⟩ := hB.fr h
    have hC := hPC.2.2.choose_spec.2.2.1 s hs
    have hRR := hPR.2.2.1 s hs
    have hN := hW.n
    have w6 := hW.w6 hs
    have h450 := hC.2.2.1
    have h1795 := hRR.2.2.1
    have e : y = dW d s := by omega
    subst e
    have b : dW d s ≤ dW d s := Nat.le_refl _
    have b0 : s < 12 := by omega
    refine ⟨σ, ρ, ?_, ?_, h, hR⟩
    · rw [fX1_comesOut_113]
      simp (disch := omega) only [h450, n_le, b, ↓reduceIte]
    · rw [fX14_passOn_84]
      simp (disch := omega) only [hz3, h1795, i_12, n_gi, n_cl, n_le, b0, b, ↓reduceIte]
  | succ k ih =>
    intro y n m σ ρ h1 h0 h2 h3 h hr hR
    obtain ⟨n, rfl⟩ : ∃ j, n = j + 1 := ⟨n - 1, by omega⟩
    obtain ⟨m, rfl⟩ : ∃ j, m = j + 1 := ⟨m - 1, by omega⟩
    obtain ⟨hW, hPC, hPR, hz, hz3, hP⟩ := hB.fr h
    obtain ⟨L, hL, hl, hPC, _⟩ := hPC.2.2
    have hC := hPC s hs
    have hRR := hPR.2.2.1 s hs
    have hN := hW.n
    have w6 := hW.w6 hs
    have hA := hW.a hs (by omega)
    have hA6 := hW.w6 (Nat.lt_trans hA hs)
    obtain ⟨m1, m2⟩ := (hW.2.2.1 s hs).2.2.2.2.2.2.2.2.1 hk
    have h450 := hC.2.2.1
    have h1795 := hRR.2.2.1
    have b0 : s < 12 := by omega
    have b1 : ¬ dW d s ≤ y := by omega
    have b2 : ¬ 6 ≤ y := by omega
    have b3 : y < 6 := by omega
    have b4 : 6 * s + y < 72 := by omega
    have b5 : 1 + y < 7 := by omega
    obtain ⟨q, c3, c4, c5, c6⟩ := hC.2.2.2.2.2.2.2.2.2.2.2.2 y (Or.inr (Or.inl ⟨hk, h0, by omega⟩))
    obtain ⟨b, r3, r4, r5⟩ := hRR.2.2.2.2.2.2.2.2.2.2.2.2.2 y (Or.inl ⟨hk, h0, by omega⟩)
    obtain ⟨v, σ3, v2, ρ3, u1, u2, rfl, ⟨f1, rfl⟩, ⟨f2, rfl⟩⟩ := w2_ex (r_worth (n2 := 16800) hA6 (by decide) (by decide) (by omega) hL (m2 y h0 (by omega)) c6 r5 c5 hl r4 hr hz3)
    rw [fX1_comesOut_113, fX14_passOn_84]
    simp (disch := omega) only [hz, hz3, h450, h1795, c3, c4, r3, i_1, i_6, i_12, n_gi, n_cl, n_le, n_mul, n_add, b0, b1, b2, b3, b4, b5, ↓reduceIte, lt_k]
    rw [bq_e u1, bq_e u2, bq_e (row_app (by exact hR.2.1) (by omega))]
    have e384 : zI (jJ σ 1351 P 0 f1) 384 2 0 0 = nI t := hR.1
    rw [e384]
    have hE : ER P d σ0 ρ0 τ X (wRow (jJ σ 1351 P 0 f1) 2 0 (nI t) (nI (y + 1)) fun j => if j = y then v else zJ (jJ σ 1351 P 0 f1) 1410 2 0 j) (sJ (jJ ρ 1956 0 0 f2) 1957 0 0 (1 + y) v) := by
      rw [sJ_j]; exact ((h.st.k56).r2).k57
    have hR2 : RW 2 0 t (y + 1) (wRow (jJ σ 1351 P 0 f1) 2 0 (nI t) (nI (y + 1)) fun j => if j = y then v else zJ (jJ σ 1351 P 0 f1) 1410 2 0 j) (sJ (jJ ρ 1956 0 0 f2) 1957 0 0 (1 + y) v) := by
      refine ⟨?_, ?_, ?_, fun i hi => ?_⟩
      · rw [zI_wRow, if_pos ⟨rfl, rfl, rfl, rfl⟩]
      · rw [zI_wRow, if_neg (by omega), if_pos ⟨rfl, rfl, rfl, rfl⟩]
      · rw [zJ_sJ, if_neg (by omega)]; exact hR.2.2.1
      · rw [zJ_wRow, if_pos ⟨rfl, rfl, rfl⟩, zJ_sJ]
        by_cases e : i = y
        · subst e
          rw [if_pos rfl, if_pos ⟨rfl, rfl, rfl, rfl⟩]
        · rw [if_neg e, if_neg (fun q => e (by omega))]; exact hR.2.2.2 i (by omega)
    obtain ⟨σ', ρ', u3, u4, u5, u6⟩ := ih (y + 1) n m _ _ (by omega) (by omega) (by omega) (by omega) hE (by exact hr) hR2
    exact ⟨σ', ρ', u3, u4, u5, u6⟩
theorem c_make (hB : EB P g d σ0 ρ0) (h : ER P d σ0 ρ0 τ X σ ρ) (hs : s < dN d) (hk : dK d s = 2) (hin : InR d σ ρ (dA d s) t off) : ∃ v σ1, fX1_comesOut (nI s) P s pa sa x4 σ = some (v, σ1) ∧ OutW P d σ0 ρ0 τ X s v σ1 (fX14_passOn (nI s) (nI off) ρ) := by
  obtain ⟨hW, hPC, hPR, hz, hz3, hP⟩ := hB.fr h
  have hC := hPC.2.2.choose_spec.2.2.1 s hs
  have hR := hPR.2.2.1 s hs
  have hN := hW.n
  have hA := hW.a hs (by omega)
  have hA6 := hW.w6 (Nat.lt_trans hA hs)
  have w6 := hW.w6 hs
  obtain ⟨m1, m2⟩ := (hW.2.2.1 s hs).2.2.2.2.2.2.2.2.1 hk
  obtain ⟨σ2, e1, f, hσ2, hf⟩ := cp_row hin.1 hin.2.1
  have h449 := hC.2.1
  have h1794 := hR.2.1
  have h1797 := hR.2.2.2.2.1
  have h1795A := (hPR.2.2.1 (dA d s) (by omega)).2.2.1
  rw [hk] at h449 h1794
  rw [if_neg (by omega)] at h1797
  have b0 : s < 12 := by omega
  have b1 : dA d s < 12 := by omega
  have hrr := hin.rr (by unfold TB; omega)
  have hE : ER P d σ0 ρ0 τ X σ2 (loadR ρ 1940 off) := by rw [hσ2]; exact (h.r2).k57
  have hR2 : RW 2 0 t (dW d (dA d s)) σ2 (loadR ρ 1940 off) := by
    have := RW.cp (f := f) (W := dW d (dA d s)) hA6 hf (hin.rw hW (by omega))
    rw [hσ2]; exact this
  have ff : dW d s < FU := by unfold FU; omega
  have h385 : zI σ2 385 0 0 0 = nI (dW d (dA d s)) := by rw [hσ2]; exact hin.2.1
  obtain ⟨σ', ρ', u1, u2, u3, u4⟩ := c_make_l (pa := pa) (sa := sa) (x4 := x4) (off := off) hB hs hk hin.2.2.2.1 (dW d s - dW d (dA d s)) (dW d (dA d s)) FU FU σ2 (loadR ρ 1940 off) (by omega) (Nat.le_refl _) (by omega) (by omega) hE (by rw [hσ2]; exact hrr) hR2
  refine ⟨1, σ', ?_, X, XB.rf (by omega), Or.inr ⟨rfl, ρ', t, ?_, u3, u4, Nat.le_trans hin.2.2.1 (TB_le (by omega))⟩⟩
  · unfold fX1_comesOut
    have c1 : ¬ (nI 2 : Int32) = 1 := by decide
    have c2 : ((nI 2 : Int32) = 2) = True := eq_true (by decide)
    simp only [h449, c1, c2, ↓reduceIte]
    rw [bq_e e1, h385]
    exact u1
  · unfold fX14_passOn
    have c1 : ¬ (nI 2 : Int32) = 1 := by decide
    have c2 : ((nI 2 : Int32) = 2) = True := eq_true (by decide)
    rw [if_pos ((n_gi (by omega)).mpr b0), bq_e (load_R hin.2.2.2.1)]
    simp (disch := omega) only [zI_load, zR_load, hz3, h1794, h1797, h1795A, n_gi, n_cl, b0, b1, c1, c2, i_12, ↓reduceIte]
    exact u2
theorem c_win (hB : EB P g d σ0 ρ0) (h : ER P d σ0 ρ0 τ X σ ρ) (hs : s < dN d) (hk : dK d s = 7) (h12 : X 12 0 = 0) (h9 : X 9 s < 1000000) (hin : InR d σ ρ (dA d s) t off) : ∃ v σ1, fX1_comesOut (nI s) P s pa sa x4 σ = some (v, σ1) ∧ OutW P d σ0 ρ0 τ X s v σ1 (fX14_passOn (nI s) (nI off) ρ) := by
  obtain ⟨hW, hPC, hPR, hz, hz3, hP⟩ := hB.fr h
  have hC := hPC.2.2.choose_spec.2.2.1 s hs
  have hR := hPR.2.2.1 s hs
  have hN := hW.n
  have h449 := hC.2.1
  have h1794 := hR.2.1
  rw [hk] at h449 h1794
  have b0 : s < 12 := by omega
  have hin2 : InR d σ (loadR ρ 1940 off) (dA d s) t off := hin
  obtain ⟨v, σ1, u1, X', u2, u3⟩ := r_winrow hB (h.k57 (f := va_cpy (zJ ρ 1940 0 0) (zJ ρ 1957 0 0) off 0 7)) hs hk h12 h9 hin2
  have hv : v = 0 ∨ v = 1 := by
    rcases u3 with ⟨q, _⟩ | ⟨q, _⟩
    · exact Or.inl q
    · exact Or.inr q
  have href : fX14_passOn (nI s) (nI off) ρ = bq (fX14_windowRow (nI s) (nI off) (loadR ρ 1940 off)) (fun _ z => some ((), z)) := by
    unfold fX14_passOn
    have c1 : ¬ (nI 7 : Int32) = 1 := by decide
    have c2 : ¬ (nI 7 : Int32) = 2 := by decide
    have c3 : ¬ (nI 7 : Int32) = 3 := by decide
    have c4 : ¬ (nI 7 : Int32) = 4 := by decide
    have c6 : ¬ (nI 7 : Int32) = 6 := by decide
    rw [if_pos ((n_gi (by omega)).mpr b0), bq_e (load_R hin.2.2.2.1)]
    simp (disch := omega) only [zI_load, zR_load, hz3, h1794, n_gi, n_cl, b0, c1, c2, c3, c4, c6, i_12, ↓reduceIte]
  have hcls : fX1_comesOut (nI s) P s pa sa x4 σ = some (v, σ1) := by
    unfold fX1_comesOut
    have c1 : ¬ (nI 7 : Int32) = 1 := by decide
    have c2 : ¬ (nI 7 : Int32) = 2 := by decide
    have c3 : ¬ (nI 7 : Int32) = 3 := by decide
    have c4 : ¬ (nI 7 : Int32) = 4 := by decide
    have c5 : ¬ (nI 7 : Int32) = 5 := by decide
    have c6 : ¬ (nI 7 : Int32) = 6 := by decide
    have c7 : ((nI 7 : Int32) = 7) = True := eq_true (by decide)
    simp only [h449, c1, c2, c3, c4, c5, c6, c7, ↓reduceIte]
    rw [bq_e u1, if_pos hv]
  refine ⟨v, σ1, hcls, X', u2, ?_⟩
  rw [href]
  rcases u3 with ⟨q, ρ', q1, q2⟩ | ⟨q, ρ1, t1, q1, q2, q3, q4⟩
  · exact Or.inl ⟨q, ρ', by rw [bq_e (by exact q1)], q2⟩
  · refine Or.inr ⟨q, ρ1, t1, ?_, q2, q3, q4⟩
    have q1' : fX14_windowRow (nI s) (nI off) (loadR ρ 1940 off) = _ := q1
    rw [q1']
    cases fX14_offer (nI s) ρ1 with
    | none => rfl
    | some r => rfl
end MK
