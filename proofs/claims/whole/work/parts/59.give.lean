/-! A STREAM WOULD GET A ROW: give and offer -/
def sC0 (c : Nat) : Bool := [321, 323, 326, 448, 449, 450, 1475, 1476, 453, 454, 455, 456, 1483, 1481, 1482, 0, 1, 2, 3, 1348, 1349].contains c
def sR0 (c : Nat) : Bool := [768, 781, 1793, 1794, 1795, 1796, 1797, 1798, 1799, 1800, 1801, 1802, 1803, 1804, 1806, 1807, 1808, 1810, 1811].contains c
theorem PC.fr {P : Nat} {d : Pd} {σ0 σ : Zs} (h : PC P d σ0) (e : ∀ c, sC0 c = true → ∀ s i, zI σ c P s i = zI σ0 c P s i ∧ zJ σ c P s i = zJ σ0 c P s i) : PC P d σ := by
  unfold PC PCs Cg at h ⊢
  simp only [(e 321 rfl _ _).1, (e 323 rfl _ _).1, (e 326 rfl _ _).1, (e 448 rfl _ _).2, (e 449 rfl _ _).1, (e 450 rfl _ _).1, (e 1475 rfl _ _).2, (e 1476 rfl _ _).1, (e 453 rfl _ _).1, (e 454 rfl _ _).1, (e 455 rfl _ _).1, (e 456 rfl _ _).1, (e 1483 rfl _ _).1, (e 1481 rfl _ _).1, (e 1482 rfl _ _).1, (e 0 rfl _ _).1, (e 1 rfl _ _).1, (e 2 rfl _ _).1, (e 3 rfl _ _).1, (e 1348 rfl _ _).1, (e 1349 rfl _ _).2]
  exact h
theorem PR.fr {g : Nat} {d : Pd} {ρ0 ρ : Zs} (h : PR g d ρ0) (e : ∀ c, sR0 c = true → ∀ s i, zI ρ c g s i = zI ρ0 c g s i ∧ zJ ρ c g s i = zJ ρ0 c g s i) : PR g d ρ := by
  unfold PR PRs Rg at h ⊢
  simp only [(e 768 rfl _ _).1, (e 781 rfl _ _).1, (e 1793 rfl _ _).2, (e 1794 rfl _ _).1, (e 1795 rfl _ _).1, (e 1796 rfl _ _).2, (e 1797 rfl _ _).1, (e 1798 rfl _ _).1, (e 1799 rfl _ _).1, (e 1800 rfl _ _).1, (e 1801 rfl _ _).1, (e 1802 rfl _ _).1, (e 1803 rfl _ _).1, (e 1804 rfl _ _).1, (e 1806 rfl _ _).1, (e 1807 rfl _ _).1, (e 1808 rfl _ _).1, (e 1810 rfl _ _).1, (e 1811 rfl _ _).2]
  exact h
theorem sC0_w {P c : Nat} (h : sC0 c = true) : wC P c P = false := by
  have : c ∈ [321, 323, 326, 448, 449, 450, 1475, 1476, 453, 454, 455, 456, 1483, 1481, 1482, 0, 1, 2, 3, 1348, 1349] := by simpa [sC0] using h
  simp only [List.mem_cons, List.not_mem_nil, or_false] at this
  rcases this with rfl | rfl | rfl | rfl | rfl | rfl | rfl | rfl | rfl | rfl | rfl | rfl | rfl | rfl | rfl | rfl | rfl | rfl | rfl | rfl | rfl <;> simp [wC]
theorem sR0_w {c : Nat} (h : sR0 c = true) : wR c = false := by
  have : c ∈ [768, 781, 1793, 1794, 1795, 1796, 1797, 1798, 1799, 1800, 1801, 1802, 1803, 1804, 1806, 1807, 1808, 1810, 1811] := by simpa [sR0] using h
  simp only [List.mem_cons, List.not_mem_nil, or_false] at this
  rcases this with rfl | rfl | rfl | rfl | rfl | rfl | rfl | rfl | rfl | rfl | rfl | rfl | rfl | rfl | rfl | rfl | rfl | rfl | rfl <;> decide
section GI
variable {P g : Nat} {d : Pd} {σ0 ρ0 : Zs} {τ : Prop} {X : Nat → Nat → Nat} {σ ρ : Zs} {s p2 s2 t : Nat}
theorem EB.fr (hB : EB P g d σ0 ρ0) (h : ER P d σ0 ρ0 τ X σ ρ) : EB P g d σ ρ := by
  obtain ⟨hW, hPC, hPR, hz, hz2, hP⟩ := hB
  refine ⟨hW, hPC.fr fun c hc s i => ?_, hPR.fr fun c hc s i => ?_, ?_, ?_, hP⟩
  · have := h.2.1 c P (sC0_w hc) s i
    exact ⟨this.1, this.2.1⟩
  · have := h.2.2.1 c (sR0_w hc) g s i
    exact ⟨this.1, this.2.1⟩
  · rw [(h.2.1 64 0 (by simp [wC]) 0 0).2.2]; exact hz
  · rw [(h.2.2.1 898 (by decide) 0 0 0).2.2]; exact hz2
theorem r_give_l (hB : EB P g d σ0 ρ0) (hs : s < dN d) (ht : t ≤ TB s) (hp2 : p2 = 0 ∨ p2 = 2 ∨ p2 = 5) : ∀ (k y n m : Nat) (X : Nat → Nat → Nat) (σ ρ : Zs), y + k = dM d → k < n → k < m → ER P d σ0 ρ0 τ X σ ρ → RW p2 s2 t (dW d s) σ ρ → Wp2 (fX1_give_2 (nI s) p2 s2 n (nI y) σ) (fX14_offer_2 (nI s) m (nI y) ρ) (fun _ σ' _ ρ' => ∃ X', ER P d σ0 ρ0 τ X' σ' ρ' ∧ XO s X X') := by
  intro k
  induction k with
  | zero =>
    intro y n m X σ ρ h1 h2 h3 h hw
    obtain ⟨n, rfl⟩ : ∃ j, n = j + 1 := ⟨n - 1, by omega⟩
    obtain ⟨m, rfl⟩ : ∃ j, m = j + 1 := ⟨m - 1, by omega⟩
    obtain ⟨hW, hPC, hPR, hz, hz2, hP⟩ := hB.fr h
    have hM := hW.2.1
    have e : y = dM d := by omega
    subst e
    rw [fX1_give_2, fX14_offer_2]
    have a : dM d ≤ dM d := Nat.le_refl _
    simp (disch := omega) only [hz, hz2, hPC.2.1, hPR.2.1, n_le, a, ↓reduceIte]
    exact w2_b (w2_m (r_accept hB h hs hw ht) fun _ _ _ _ q => q)
  | succ k ih =>
    intro y n m X σ ρ h1 h2 h3 h hw
    obtain ⟨n, rfl⟩ : ∃ j, n = j + 1 := ⟨n - 1, by omega⟩
    obtain ⟨m, rfl⟩ : ∃ j, m = j + 1 := ⟨m - 1, by omega⟩
    obtain ⟨hW, hPC, hPR, hz, hz2, hP⟩ := hB.fr h
    have hM := hW.2.1
    have hN := hW.1
    have hy : y < dM d := by omega
    obtain ⟨w1, w2, w3, w4⟩ := hW.2.2.2 y hy
    obtain ⟨L, hL, hl, _, hPC⟩ := hPC.2.2
    obtain ⟨c1, c2, a, c3, c4, c5, c6⟩ := hPC y hy
    obtain ⟨r1, r2, b, r3, r4, r5⟩ := hPR.2.2.2 y hy
    have hPC2 := (hB.fr h).2.1.2.1
    have a1 : ¬ dM d ≤ y := by omega
    have a2 : y < 8 := by omega
    rw [fX1_give_2, fX14_offer_2]
    simp (disch := omega) only [hz, hz2, hPC2, hPR.2.1, n_le, a1, i_1, n_add, n_gi, n_cl, a2, c1, r1, n_eq, ↓reduceIte]
    by_cases e : dCS d y = s
    · subst e
      simp only [c3, c4, r3, ↓reduceIte]
      have hwr := r_worth (n2 := 7) (hW.w6 hs) (by decide) (by decide) (by have := hW.w6 hs; omega) hL w4 c6 r5 c5 hl r4 (hw.rr (by unfold TB at ht; omega)) hz2
      refine w2_b (w2_m hwr ?_)
      rintro v σ1 v' ρ1 ⟨rfl, ⟨f1, rfl⟩, ⟨f2, rfl⟩⟩
      have h := h.st (f := f1)
      have h := h.k56 (f := f2)
      have hw : RW p2 s2 t (dW d (dCS d y)) (jJ σ 1351 P 0 f1) (jJ ρ 1956 0 0 f2) := hw
      by_cases q : lg_cmp v 0 = 0
      · simp only [q, ↓reduceIte]
        refine w2_kl fun σ2 hσ2 => ?_
        refine w2_kr fun ρ2 hρ2 => ?_
        have h : ER P d σ0 ρ0 τ X σ2 ρ2 := by
          rw [hσ2, hρ2]
          exact h.brk y _ _ (congrArg (fun x => x + nI 1) (h.2.2.2.2.2.2.2.1 y hy))
        have hw : RW p2 s2 t (dW d (dCS d y)) σ2 ρ2 := by rw [hσ2, hρ2]; exact hw
        have c2 : zI σ2 1 P y 0 = nI (128 + dCF d y) := by rw [hσ2]; exact c2
        have r2 : zI ρ2 1808 g 0 y = nI (dCF d y) := by rw [hρ2]; exact r2
        have hz2 : zR ρ2 898 0 0 0 = (g, 0) := by rw [hρ2]; exact hz2
        obtain ⟨σ3, ρ3, X3, u1, u2, u3, u4, u5, u6, u7, u8⟩ := r_hold (x := nI y) hW h hs hw (hW.w6 hs) ht (by omega) (Or.inr ⟨y, hy, rfl, rfl⟩)
        have b1 : ∀ v, zI (sI σ2 68 0 0 0 v) 1 P y 0 = zI σ2 1 P y 0 := fun v => rfl
        have u6' : zI ρ3 1808 g 0 y = zI ρ2 1808 g 0 y := by rw [u6]
        have f0 : dCF d y = 19 ∨ dCF d y = 20 ∨ dCF d y = 21 := by omega
        rcases f0 with f0 | f0 | f0
        · rw [f0] at c2 r2
          have e1 : ¬ (nI (128 + 19) : Int32) = 149 := by decide
          have e2 : (nI (128 + 19) : Int32) = 147 := by decide
          have e3 : (nI 19 : Int32) = 19 := by decide
          have e4 : ¬ (nI 19 : Int32) = 21 := by decide
          simp (disch := omega) only [c2, hz2, r2, n_gi, n_cl, a2, e1, e2, e3, e4, ↓reduceIte]
          exact ⟨X, h, XO.rf⟩
        · rw [f0] at c2 r2
          have e1 : ¬ (nI (128 + 20) : Int32) = 149 := by decide
          have e2 : ¬ (nI (128 + 20) : Int32) = 147 := by decide
          have e3 : ¬ (nI 20 : Int32) = 19 := by decide
          have e4 : ¬ (nI 20 : Int32) = 21 := by decide
          simp (disch := omega) only [c2, hz2, r2, n_gi, n_cl, a2, e1, e2, e3, e4, ↓reduceIte]
          rw [bq_e u1, bq_e u2]
          simp (disch := omega) only [u7, u6', hz2, r2, n_gi, n_cl, a2, e1, e2, e3, e4, ↓reduceIte]
          exact ⟨X3, u3, u4⟩
        · rw [f0] at c2 r2
          have e1 : (nI (128 + 21) : Int32) = 149 := by decide
          have e2 : ¬ (nI (128 + 21) : Int32) = 147 := by decide
          have e3 : ¬ (nI 21 : Int32) = 19 := by decide
          have e4 : (nI 21 : Int32) = 21 := by decide
          simp (disch := omega) only [c2, hz2, r2, n_gi, n_cl, a2, e1, e2, e3, e4, ↓reduceIte, lt_k, b1]
          rw [bq_e (u8 _), bq_e u2]
          simp (disch := omega) only [u7, u6', hz2, r2, n_gi, n_cl, a2, e4, ↓reduceIte, lt_k]
          exact ⟨X3, u3.stop (b := 1) (by decide), u4⟩
      · simp only [q, ↓reduceIte]
        exact ih (y + 1) n m X _ _ (by omega) (by omega) (by omega) h hw
    · simp only [e, ↓reduceIte]
      exact ih (y + 1) n m X σ ρ (by omega) (by omega) (by omega) h hw
theorem r_give (hB : EB P g d σ0 ρ0) (h : ER P d σ0 ρ0 τ X σ ρ) (hs : s < dN d) (hw : RW p2 s2 t (dW d s) σ ρ) (ht : t ≤ TB s) (hp2 : p2 = 0 ∨ p2 = 2 ∨ p2 = 5) : Wp2 (fX1_give (nI s) p2 s2 σ) (fX14_offer (nI s) ρ) (fun _ σ' _ ρ' => ∃ X', ER P d σ0 ρ0 τ X' σ' ρ' ∧ XO s X X') := by
  unfold fX1_give fX14_offer
  have hM := hB.1.2.1
  have hf : dM d < FU := by unfold FU; omega
  exact r_give_l hB hs ht hp2 (dM d) 0 FU FU X σ ρ (by omega) hf hf h hw
end GI
