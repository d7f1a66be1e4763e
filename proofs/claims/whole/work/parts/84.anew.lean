/-! THE WHOLE LOG IS DONE ANEW -/
section AW
variable {P g : Nat} {d : Pd} {σ0 ρ0 : Zs} {τ : Prop} {X : Nat → Nat → Nat} {σ ρ : Zs} {L : Nat}
theorem ER.re (h : ER P d σ0 ρ0 τ X σ ρ) : ER P d σ ρ τ X σ ρ := ⟨h.1, EFC.rf, EFR.rf, h.2.2.2⟩
theorem r_anew_l (hB : EB P g d σ0 ρ0) (hL : L ≤ 200) (h716 : zI σ0 716 0 0 0 = nI L) (h940 : zI ρ0 940 0 0 0 = nI L) (hEn : ∀ e, e < L → Ent σ0 ρ0 e) : ∀ (k y i n m : Nat) (X : Nat → Nat → Nat) (σ ρ : Zs), y + k = L → i ≤ y → k < n → k < m → ER P d σ0 ρ0 False X σ ρ → Good d y X → Setl d X →
    ∃ v σ' ρ' X', fX11_doLogAnew_15 n (nI i) (nI y) σ = some (nI v, σ') ∧ fX14_doAgain_8 m (nI i) (nI y) ρ = some (nI v, ρ') ∧ v ≤ L ∧ ER P d σ0 ρ0 False X' σ' ρ' ∧ Good d L X' ∧ Setl d X' := by
  intro k
  induction k with
  | zero =>
    intro y i n m X σ ρ h1 h2 h3 h4 h5 h6 h7
    obtain ⟨n, rfl⟩ : ∃ j, n = j + 1 := ⟨n - 1, by omega⟩
    obtain ⟨m, rfl⟩ : ∃ j, m = j + 1 := ⟨m - 1, by omega⟩
    have ey : y = L := by omega
    subst ey
    have e1 : zI σ 716 0 0 0 = nI y := ((h5.2.1 716 0 (by simp [wC]) 0 0).1).trans h716
    have e2 : zI ρ 940 0 0 0 = nI y := ((h5.2.2.1 940 (by decide) 0 0 0).1).trans h940
    have b : y ≤ y := Nat.le_refl _
    rw [fX11_doLogAnew_15, fX14_doAgain_8]
    simp (disch := omega) only [e1, e2, n_le, b, ↓reduceIte]
    exact ⟨i, σ, ρ, X, rfl, rfl, h2, h5, h6, h7⟩
  | succ k ih =>
    intro y i n m X σ ρ h1 h2 h3 h4 h5 h6 h7
    obtain ⟨n, rfl⟩ : ∃ j, n = j + 1 := ⟨n - 1, by omega⟩
    obtain ⟨m, rfl⟩ : ∃ j, m = j + 1 := ⟨m - 1, by omega⟩
    have e1 : zI σ 716 0 0 0 = nI L := ((h5.2.1 716 0 (by simp [wC]) 0 0).1).trans h716
    have e2 : zI ρ 940 0 0 0 = nI L := ((h5.2.2.1 940 (by decide) 0 0 0).1).trans h940
    have b : ¬ L ≤ y := by omega
    have b2 : y < 200 := by omega
    obtain ⟨v, σ2, σ', u, ρ', X', u1, u2, u3, u4, u5, u6⟩ := r_again hB h5 h6 h7 (by omega) b2 ((hEn y (by omega)).fr h5.2.1 h5.2.2.1)
    rw [fX11_doLogAnew_15, fX14_doAgain_8]
    simp (disch := omega) only [e1, e2, n_le, n_gi, n_cl, b, b2, ↓reduceIte]
    rw [bq_e u1, bq_e u2]
    rcases u3 with ⟨rfl, rfl, rfl⟩ | ⟨rfl, rfl, u3⟩
    · rw [if_pos rfl, if_neg (show ¬ (1 : Int32) = 0 by decide), i_1, n_add, n_add]
      exact ih (y + 1) (i + 1) n m X' _ ρ' (by omega) (by omega) (by omega) (by omega) u4 u5 u6
    · rw [if_neg (show ¬ (1 : Int32) = 0 by decide), if_pos rfl, bq_e u3, i_1, n_add]
      have e0 : (nI i + 0 : Int32) = nI i := by rw [i_0, n_add, Nat.add_zero]
      rw [e0]
      exact ih (y + 1) i n m X' _ ρ' (by omega) (by omega) (by omega) (by omega) u4 u5 u6
theorem sR_self {z : Zs} {c p s i : Nat} {v : Nat × Nat} (h : zR z c p s i = v) : sR z c p s i v = z := by
  refine zs_ext (fun _ _ _ _ => rfl) (fun _ _ _ _ => rfl) (fun c' p' s' i' => ?_)
  rw [zR_sR]
  split
  · rename_i q
    obtain ⟨rfl, rfl, rfl, rfl⟩ := q
    exact h.symm
  · rfl
theorem r_anew (hW : WFd d) (hPC : PC P d σ) (hPR : PR g d ρ) (hz : zR σ 64 0 0 0 = (P, 0)) (hz3 : zR ρ 898 0 0 0 = (g, 0)) (hP : P < 3) (hp : HPm σ) (h513 : ∀ s, s < dN d → zI σ 513 P s 0 = nI (dW d s)) (h707 : zR σ 707 0 0 0 = (P, 0)) (hL : L ≤ 200) (h716 : zI σ 716 0 0 0 = nI L) (h940 : zI ρ 940 0 0 0 = nI L) (hEn : ∀ e, e < L → Ent σ ρ e) :
    ∃ v σ' ρ' X', fX11_doLogAnew σ = some (nI v, σ') ∧ fX14_doAgain ρ = some (nI v, ρ') ∧ v ≤ L ∧ EB P g d σ' ρ' ∧ ER P d σ' ρ' False X' σ' ρ' ∧ Good d L X' ∧ Setl d X' ∧ EFC P σ σ' ∧ EFR ρ ρ' := by
  obtain ⟨σ1, ρ1, a1, a2, a3, a4, a5, a6, a7, a8⟩ := r_start hW hPC hPR hz3 hP hp
  have e13 : w13 σ P (dN d) = σ := by
    refine zs_ext (fun c p s i => ?_) (fun _ _ _ _ => rfl) (fun _ _ _ _ => rfl)
    rw [zI_w13]
    split
    · rename_i q
      obtain ⟨rfl, rfl, rfl, hs⟩ := q
      rw [h513 s hs]; exact (hPC.2.2.choose_spec.2.2.1 s hs).2.2.1
    · rfl
  rw [sR_self hz, e13] at a7
  have e1 : zI σ1 716 0 0 0 = nI L := ((a7 716 0 (by simp [wC]) 0 0).1).trans h716
  have e2 : zI ρ1 940 0 0 0 = nI L := ((a8 940 (by decide) 0 0 0).1).trans h940
  have ff : L < FU := by unfold FU; omega
  obtain ⟨v, σ', ρ', X', b1, b2, b3, b4, b5, b6⟩ := r_anew_l a3 hL e1 e2 (fun e he => (hEn e he).fr a7 a8) L 0 0 FU FU XZ σ1 ρ1 (by omega) (Nat.le_refl _) ff ff a4 a5 a6
  refine ⟨v, σ', ρ', X', ?_, ?_, b3, a3.fr b4, b4.re, b5, b6, a7.tr b4.2.1, a8.tr b4.2.2.1⟩
  · unfold fX11_doLogAnew
    rw [h707, bq_e a1, i_0]
    exact b1
  · unfold fX14_doAgain
    rw [bq_e a2, i_0]
    exact b2
end AW
