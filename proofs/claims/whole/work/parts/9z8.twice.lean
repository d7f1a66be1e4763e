/-! THE LAW READS TWICE, the class once -/
section TW0
variable {x : Cx}
theorem x_cIt (hc : Cok x) : ∀ (r t m : Nat) (d : Pd) (σ ρ : Zs), r + t = 1501 → ITm x d t σ ρ → cIt m ρ ≤ (qN x - t + 1) / 2 := by
  intro r
  induction r using Nat.strongRecOn with
  | ind r ih =>
    intro t m d σ ρ h1 h
    obtain ⟨i1, i2, i3, i4, i5, i6, i7⟩ := id h
    have ht := i3.1
    have ht5 := hc.n i3.1
    cases m with
    | zero => exact Nat.zero_le _
    | succ m =>
      have his : fX14_is 202 ρ = some (if qk x t = 202 then 1 else 0, ρ) := by
        rcases i3.is hc i1.2.1 i2 202 with e | e
        · exact e
        · omega
      by_cases q : qk x t = 202
      · rw [if_pos q] at his
        have : cIt (m + 1) ρ = 0 := by
          rw [cIt, his]
          simp only [if10]
        omega
      · rw [if_neg q] at his
        obtain ⟨v, σ2, e1, h2⟩ := wp_ex (x_item hc h)
        obtain ⟨w, ρ2, e2, h3⟩ := wp_ex h2
        cases w with
        | error e =>
          rw [cIt_er his rfl e2]
          omega
        | ok a =>
          obtain ⟨t', d', g1, g2⟩ := h3
          rw [cIt_ok his rfl e2]
          have ht' := g2.2.2.1.1
          have ht5' := hc.n g2.2.2.1.1
          have := ih (1501 - t') (by omega) t' m d' σ2 ρ2 (by omega) g2
          omega
theorem x_cR (h : Beg x) : cR (qL x) ≤ (qN x + 1) / 2 := by
  obtain ⟨w, e1, e2⟩ := adv_0 h
  have hc := h.1
  have hn : 0 < qN x := e2.2.2.1.1
  obtain ⟨v, σ2, a1, h2⟩ := wp_ex (x_item hc e2)
  obtain ⟨w, ρ2, a2, h3⟩ := wp_ex h2
  unfold cR
  rw [a2]
  cases w with
  | error e => show 1 ≤ _; omega
  | ok a =>
    obtain ⟨t', d', g1, g2⟩ := h3
    have ht' := g2.2.2.1.1
    have ht5' := hc.n g2.2.2.1.1
    have := x_cIt hc (1501 - t') t' FU d' σ2 ρ2 (by omega) g2
    show 1 + cIt FU ρ2 ≤ _
    omega
end TW0
def LQ (g : Nat) (ρ0 ρ : Zs) : Prop := ∀ c q, c ≠ 906 → wL 1 g c q = false → ∀ s i, zI ρ c q s i = zI ρ0 c q s i ∧ zJ ρ c q s i = zJ ρ0 c q s i ∧ zR ρ c q s i = zR ρ0 c q s i
theorem wL01 {g c q : Nat} (h : wL 1 g c q = false) : wL 0 g c q = false := by
  unfold wL at h ⊢
  rw [show (decide ((1 : Nat) = 0)) = false from rfl, Bool.false_and, Bool.not_false, Bool.and_true] at h
  rw [h, Bool.false_and]
section TW
variable {S g : Nat} {σb ρb σ1 ρ1 ρ2 : Zs} {tk : Tk}
theorem lq_1 (h : LFr (S, g, 0, σb, ρb, tk) ρ1) : LQ g ρb ρ1 := fun c q _ hw s i => h c q (wL01 hw) s i
theorem lq_2 (h : LFr (S, g, 0, σb, ρb, tk) ρ1) (k : LFr (S, g, 1, σb, sI ρ1 906 0 0 0 1, tk) ρ2) : LQ g ρb ρ2 := fun c q hc hw s i => by
  obtain ⟨a1, a2, a3⟩ := h c q (wL01 hw) s i
  obtain ⟨b1, b2, b3⟩ := k c q hw s i
  refine ⟨b1.trans (Eq.trans ?_ a1), b2.trans a2, b3.trans a3⟩
  show zI (sI ρ1 906 0 0 0 1) c q s i = _
  rw [zI_sI, if_neg (fun z => hc z.1)]
/-- the second reading begins -/
theorem beg_2 (h : Beg (S, g, 0, σb, ρb, tk)) (k : LFr (S, g, 0, σb, ρb, tk) ρ1) (hM : M0 (S, g, 0, σb, ρb, tk) ρ1) : Beg (S, g, 1, σb, sI ρ1 906 0 0 0 1, tk) := by
  obtain ⟨⟨⟨t1, t2, t3, t4⟩, c2, c3, c4⟩, hb, hc, l1, l2, l3, l4⟩ := h
  refine ⟨⟨⟨t1, t2, fun j hj => ?_, t4⟩, ?_, rfl, Nat.le_refl _⟩, hb, hc, hM.1, hM.2.1, ?_, hM.2.2⟩
  · obtain ⟨h1, h2, h3, h4, h5, h6, h7, h8, h9⟩ := t3 j hj
    exact ⟨h1, h2, ((k 1926 0 (wln rfl rfl) 0 j).1).trans h3, ((k 1927 0 (wln rfl rfl) 0 j).1).trans h4, ((k 1928 0 (wln rfl rfl) 0 j).2.1).trans h5, h6, h7, h8, h9⟩
  · exact ((k 909 0 (wln rfl rfl) 0 0).2.2).trans c2
  · exact ((k 785 g wl5 0 0).1).trans l3
theorem prz {d : Pd} {z : Nat} (hz : z ≤ 3000) {s : Nat} (h : PRsz g d s z ρ1) : PRs g d s ρ1 := by
  obtain ⟨h1, h2, h3, h4, h5, h6, h7, h8, h9, h10, h11, h12, h13, h14⟩ := h
  refine ⟨h1, h2, h3, h4, h5, h6, h7, h8, h9, h10, h11, h12, fun q => ?_, fun c q => ?_⟩
  · obtain ⟨a, a1, a2, a3⟩ := h13 q
    exact ⟨a, a1, by omega, a3⟩
  · obtain ⟨a, a1, a2, a3⟩ := h14 c q
    exact ⟨a, a1, by omega, a3⟩
theorem lok_pd (hc : Cok (S, g, 1, σb, ρb, tk)) (h : LOK (S, g, 1, σb, ρb, tk) σ1 ρ1) : zI σ1 192 0 0 0 = 0 ∧ ∃ d, PC S d σ1 ∧ PR g d ρ1 ∧ WFd d ∧ NmOk d := by
  obtain ⟨t, d, hI, _⟩ := h
  have ht := hc.n hI.2.2.1.1
  obtain ⟨m1, m2, L, z, m3, m4, m5, m6, o1, o2, o3, o4, o5, o6, o7, o8⟩ := hI.2.2.2.2.2.2 rfl
  refine ⟨m1, d, ⟨o1, o2, L, by omega, m5, o5, o6⟩, ⟨o3, o4, fun s hs => prz (by omega) (o7 s hs), fun c hcc => ?_⟩, m2.1, m2.2.1⟩
  obtain ⟨h1, h2, a, a1, a2, a3⟩ := o8 c hcc
  exact ⟨h1, h2, a, a1, by omega, a3⟩
theorem x_twice (h : Beg (S, g, 0, σb, ρb, tk)) : ∃ v σ1, cRun σb = some (v, σ1) ∧ St0 S σb σ1 ∧ (
    (∃ e ρ1, fX14_readAll ρb = some (.error e, ρ1) ∧ LQ g ρb ρ1 ∧ e.1 = 1 ∧ e.2 = v ∧ ¬ v < 0 ∧ cR ρb ≤ tk.1 + 1)
    ∨ ∃ ρ1 w ρ2, fX14_readAll ρb = some (.ok (), ρ1) ∧ fX14_readAll (sI ρ1 906 0 0 0 1) = some (w, ρ2) ∧ LQ g ρb ρ2 ∧ v < 0 ∧ cR ρb + cR (sI ρ1 906 0 0 0 1) ≤ tk.1 + 1
      ∧ ((∃ e, w = .error e ∧ zI σ1 192 0 0 0 = e.1 ∧ zI σ1 193 0 0 0 = e.2 ∧ zI σ1 192 0 0 0 ≠ 0) ∨ (w = .ok () ∧ zI σ1 192 0 0 0 = 0 ∧ zI σ1 193 0 0 0 = -nI 1 ∧ ∃ d, PC S d σ1 ∧ PR g d ρ2 ∧ WFd d ∧ NmOk d))) := by
  have hB := c_run h
  have hR := x_cR h
  have hn : 1 ≤ tk.1 := h.1.1.1.1
  obtain ⟨v, σ1, e1, hA⟩ := wp_ex (x_read h)
  obtain ⟨w, ρ1, e2, hA⟩ := wp_ex hA
  rw [e1] at hB
  have hB : St0 S σb σ1 ∧ v = zI σ1 258 0 0 0 := hB
  have hR : cR ρb ≤ (tk.1 + 1) / 2 := hR
  refine ⟨v, σ1, e1, hB.1, ?_⟩
  cases w with
  | error e =>
    obtain ⟨k1, k2, k3⟩ : Er0 (S, g, 0, σb, ρb, tk) e σ1 ρ1 := hA
    rcases k3 with ⟨a1, a2, a3⟩ | ⟨m, _⟩
    · refine Or.inl ⟨e, ρ1, e2, lq_1 k2, a1, a2.symm.trans hB.2.symm, ?_, by omega⟩
      rw [hB.2]
      rcases hB.1.1.2.2.2.2.2.2.1 with q | ⟨⟨a, ha, q⟩, _⟩
      · exact absurd q a3
      · rw [q, i_0, n_lt (by omega) (by omega)]; omega
    · exact absurd m Nat.zero_ne_one
  | ok a =>
    obtain ⟨a1, a2⟩ : v = -nI 1 ∧ LOK (S, g, 0, σb, ρb, tk) σ1 ρ1 := hA
    obtain ⟨t0, dd, hI, _⟩ := a2
    have h1 := beg_2 h hI.2.1 (hI.2.2.2.2.2.1 rfl)
    have hR2 : cR (sI ρ1 906 0 0 0 1) ≤ (tk.1 + 1) / 2 := x_cR h1
    have hS := x_read h1
    have e1' : cRun (qC (S, g, 1, σb, sI ρ1 906 0 0 0 1, tk)) = some (v, σ1) := e1
    unfold SM at hS
    rw [e1'] at hS
    obtain ⟨w, ρ2, e3, hC⟩ := wp_ex (show Wp1 (fX14_readAll (sI ρ1 906 0 0 0 1)) _ from hS)
    have hv : v < 0 := by rw [a1]; decide
    refine Or.inr ⟨ρ1, w, ρ2, e2, e3, ?_, hv, by omega, ?_⟩
    · cases w with
      | error e => exact lq_2 hI.2.1 (show Er0 (S, g, 1, σb, sI ρ1 906 0 0 0 1, tk) e σ1 ρ2 from hC).2.1
      | ok u =>
        obtain ⟨_, t2, d2, hI2, _⟩ : v = -nI 1 ∧ LOK (S, g, 1, σb, sI ρ1 906 0 0 0 1, tk) σ1 ρ2 := hC
        exact lq_2 hI.2.1 hI2.2.1
    · cases w with
      | error e =>
        obtain ⟨k1, k2, k3⟩ : Er0 (S, g, 1, σb, sI ρ1 906 0 0 0 1, tk) e σ1 ρ2 := hC
        rcases k3 with ⟨b1, b2, b3⟩ | ⟨m, b1, b2, b3, b4⟩
        · exact absurd (hB.2.symm.trans a1) b3
        · exact Or.inl ⟨e, rfl, b2, b3, b4⟩
      | ok u =>
        obtain ⟨_, hL⟩ : v = -nI 1 ∧ LOK (S, g, 1, σb, sI ρ1 906 0 0 0 1, tk) σ1 ρ2 := hC
        obtain ⟨p1, p2⟩ := lok_pd h1.1 hL
        exact Or.inr ⟨rfl, p1, hB.1.1.2.2.2.2.2.2.2.2.2 p1, p2⟩
end TW
