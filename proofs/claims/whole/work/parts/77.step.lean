/-! STEPS: one step, all steps -/
theorem wm_min {a b : Nat} (ha : a < 1073741824) (hb : b < 1073741824) : p_min (wmv a) (wmv b) = wmv (min a b) := by
  have e : ∀ k, k < 1073741824 → (wmv k).toInt = (k : Int) - 1 := by
    intro k hk
    unfold wmv
    cases k with
    | zero => rfl
    | succ k => rw [n_p1 (by omega), nI_toInt (by omega)]; omega
  unfold p_min
  by_cases q : b < a
  · rw [if_pos, Nat.min_eq_right (by omega)]
    rw [Int32.lt_iff_toInt_lt, e a ha, e b hb]; omega
  · rw [if_neg, Nat.min_eq_left (by omega)]
    rw [Int32.lt_iff_toInt_lt, e a ha, e b hb]; omega
theorem bq_bq {α β γ : Type} {o : Option (α × Zs)} {k : α → Zs → Option (β × Zs)} {l : β → Zs → Option (γ × Zs)} : bq (bq o k) l = bq o (fun v z => bq (k v z) l) := by
  cases o with
  | none => rfl
  | some r => rfl
theorem bq_ite {α β : Type} {c : Prop} [Decidable c] {a b : Option (α × Zs)} {l : α → Zs → Option (β × Zs)} : bq (if c then a else b) l = if c then bq a l else bq b l := by
  split <;> rfl
def Rdy (d : Pd) (E : Nat) (X : Nat → Nat → Nat) (s : Nat) : Prop := X 1 s = X 7 s ∧ X 2 s = X 8 s ∧ X 7 s ≤ X 0 (dA d s) ∧ (dK d s = 4 ∨ dK d s = 5 → X 8 s ≤ X 0 (dB d s)) ∧ (dK d s = 6 → X 11 s = X 7 s) ∧ X 9 s ≤ X 7 s + X 8 s + E ∧ X 3 s ≤ X 3 (dA d s) ∧ (dK d s = 4 ∨ dK d s = 5 → X 3 s ≤ X 3 (dB d s)) ∧ X 8 s ≤ 200
def Fin7 (d : Pd) (X : Nat → Nat → Nat) (s : Nat) : Prop := X 7 s = X 0 (dA d s) ∧ (dK d s = 4 ∨ dK d s = 5 → X 8 s = X 0 (dB d s)) ∧ X 3 s = (if dK d s = 4 ∨ dK d s = 5 then min (X 3 (dA d s)) (X 3 (dB d s)) else X 3 (dA d s)) ∧ (dK d s = 7 → WSet d X s)
def Good (d : Pd) (E : Nat) (X : Nat → Nat → Nat) : Prop := X 12 0 = 0 ∧ ∀ s, s < dN d → dK d s ≠ 0 → Rdy d E X s
def Setl (d : Pd) (X : Nat → Nat → Nat) : Prop := ∀ s, s < dN d → dK d s ≠ 0 → Fin7 d X s
/-- what a step changes of the numbers -/
def XS (s : Nat) (X X' : Nat → Nat → Nat) : Prop := (∀ k i, i ≠ s → k ≠ 5 → k ≤ 11 → X' k i = X k i) ∧ X' 12 0 = X 12 0 ∧ X 0 s ≤ X' 0 s ∧ (∀ k i, k = 15 ∨ k = 16 → ¬ (60 * s ≤ i ∧ i < 60 * s + 60) → X' k i = X k i)
section SP
variable {P g : Nat} {d : Pd} {σ0 ρ0 : Zs} {τ : Prop} {X : Nat → Nat → Nat} {σ ρ : Zs} {s t off a r v E : Nat}
theorem ER.wm (h : ER P d σ0 ρ0 τ X σ ρ) (h1 : X 3 s ≤ v) (h2 : v ≤ 1000001) : ER P d σ0 ρ0 τ (upx X 3 s v) (sI σ 461 P s 0 (wmv v)) (sI ρ 1942 0 0 s (wmv v)) := by
  have hm : ∀ i, X 3 i ≤ upx X 3 s v 3 i := by
    intro i
    by_cases e : i = s
    · subst e; rw [upx_p]; exact h1
    · rw [upx_n (by omega)]; exact Nat.le_refl _
  refine ⟨h.1, h.2.1.I (by simp [wC]), h.2.2.1.I (by decide), h.2.2.2.1, fun s' hs' => ?_, h.2.2.2.2.2.1, ?_, h.2.2.2.2.2.2.2⟩
  · obtain ⟨a1, a2, a3, a4, a5, a6, a7⟩ := h.2.2.2.2.1 s' hs'
    by_cases e : s' = s
    · subst e
      refine ⟨?_, ?_, ?_, a4, a5, a6, a7⟩
      · rw [zI_sI, if_pos ⟨rfl, rfl, rfl, rfl⟩, upx_p]
      · rw [zI_sI, if_pos ⟨rfl, rfl, rfl, rfl⟩, upx_p]
      · rw [upx_p]; exact h2
    · refine ⟨?_, ?_, ?_, a4, a5, a6, a7⟩
      · rw [zI_sI, if_neg (by omega), upx_n (by omega)]; exact a1
      · rw [zI_sI, if_neg (by omega), upx_n (by omega)]; exact a2
      · rw [upx_n (by omega)]; exact a3
  · obtain ⟨q1, q2, q3, π, p1, p2, p3⟩ := h.2.2.2.2.2.2.1
    refine ⟨q1, q2, q3, π, p1, p2, fun j hj => ?_⟩
    obtain ⟨s1, t1, w1, k1, k2, k3, k4, k5, k6, k7, k8, k9⟩ := p3 j hj
    refine ⟨s1, t1, w1, k1, k2, k3, k4, k5, k6, k7, k8, ?_⟩
    rcases k9 with ⟨x1, x2, x3, x4, x5, x6⟩ | x
    · exact Or.inl ⟨x1, x2, x3, x4, x5, Nat.le_trans x6 (hm s1)⟩
    · exact Or.inr x
/-- what follows when all rows are looked at: the watermark, the windows -/
theorem r_wm (hB : EB P g d σ0 ρ0) (h : ER P d σ0 ρ0 τ X σ ρ) (hs : s < dN d) (hk0 : dK d s ≠ 0) (h12 : X 12 0 = 0) (hv : v = (if dK d s = 4 ∨ dK d s = 5 then min (X 3 (dA d s)) (X 3 (dB d s)) else X 3 (dA d s))) (h3 : X 3 s ≤ v) :
    ∃ σ' ρ' X', (bq (fX1_leastWatermark P s σ) fun v13 σ14 => lt (sI σ14 461 P s 0 v13) fun σ17 => if zI σ17 449 P s 0 = 7 then fX1_closeWindows (nI s) P s σ17 else some ((), σ17)) = some ((), σ') ∧ fX14_doStep_132 (nI s) (nI (dA d s)) (if dK d s = 4 ∨ dK d s = 5 then nI (dB d s) else -1) ρ = some ((), ρ') ∧ ER P d σ0 ρ0 τ X' σ' ρ' ∧ XC s (upx X 3 s v) X' ∧ (dK d s = 7 → WSet d X' s) := by
  obtain ⟨hW, hPC, hPR, hz, hz3, hP⟩ := hB.fr h
  have hC := hPC.2.2.choose_spec.2.2.1 s hs
  have hR := hPR.2.2.1 s hs
  have hN := hW.n
  have hAs := hW.a hs hk0
  have k7 := (hW.2.2.1 s hs).1
  have h449 := hC.2.1
  have h1794 := hR.2.1
  have b0 : s < 12 := by omega
  have b1 : dA d s < 12 := by omega
  obtain ⟨wa1, wa2, wa3, _⟩ := h.2.2.2.2.1 (dA d s) (by omega)
  have hi0 : fX1_inputOf P s 0 σ = some (some (P, dA d s), σ) := in_0 hB h hs hk0
  have hv2 : v ≤ 1000001 := by
    rw [hv]
    split
    · exact Nat.le_trans (Nat.min_le_left _ _) wa3
    · exact wa3
  have hE := h.wm (s := s) (v := v) h3 hv2
  have hlw : fX1_leastWatermark P s σ = some (wmv v, σ) := by
    unfold fX1_leastWatermark
    rw [bq_e hi0]
    simp only [nn]
    by_cases k : dK d s = 4 ∨ dK d s = 5
    · have hi1 : fX1_inputOf P s 1 σ = some (some (P, dB d s), σ) := in_1 hB h hs k
      obtain ⟨wb1, wb2, wb3, _⟩ := h.2.2.2.2.1 (dB d s) (by have := (hW.2.2.1 s hs).2.2.2.2.2.2.1 k; omega)
      rw [bq_e hi1]
      simp only [wa1, wb1]
      rw [wm_min (by omega) (by omega), hv, if_pos k]
    · have hi1 : fX1_inputOf P s 1 σ = some (none, σ) := in_n hB h hs k
      rw [bq_e hi1]
      simp only [wa1]
      rw [hv, if_neg k]
  have hrw : fX14_doStep_132 (nI s) (nI (dA d s)) (if dK d s = 4 ∨ dK d s = 5 then nI (dB d s) else -1) ρ = fX14_doStep_166 (nI s) (wmv v) (nI s) ρ := by
    unfold fX14_doStep_132
    by_cases k : dK d s = 4 ∨ dK d s = 5
    · obtain ⟨wb1, wb2, wb3, _⟩ := h.2.2.2.2.1 (dB d s) (by have := (hW.2.2.1 s hs).2.2.2.2.2.2.1 k; omega)
      have b2 : dB d s < 12 := by have := (hW.2.2.1 s hs).2.2.2.2.2.2.1 k; omega
      rw [if_pos k]
      simp (disch := omega) only [i_1, n_m1, n_gi, n_cl, b1, b2, ↓reduceIte]
      rw [wa2, wb2, wm_min (by omega) (by omega), hv, if_pos k]
    · rw [if_neg k]
      simp (disch := omega) only [n_gi, n_cl, b1, ↓reduceIte]
      rw [wa2, hv, if_neg k]
  have e449 : zI (sI σ 461 P s 0 (wmv v)) 449 P s 0 = nI (dK d s) := h449
  have e1794 : zI (sI ρ 1942 0 0 s (wmv v)) 1794 g 0 s = nI (dK d s) := h1794
  have ez3 : zR (sI ρ 1942 0 0 s (wmv v)) 898 0 0 0 = (g, 0) := hz3
  by_cases q : dK d s = 7
  · obtain ⟨_, σ', _, ρ', u1, u2, X', u3, u4, u5⟩ := w2_ex (r_close hB hE hs q h12)
    refine ⟨σ', ρ', X', ?_, ?_, u3, u4, fun _ => u5⟩
    · rw [bq_e hlw, lt_k, e449, q, if_pos (by decide)]
      exact u1
    · rw [hrw]
      unfold fX14_doStep_166
      simp (disch := omega) only [n_gi, n_cl, b0, e1794, ez3, q, lt_k, ↓reduceIte]
      rw [if_pos (by decide), bq_e u2]
  · have c7 : ¬ (nI (dK d s) : Int32) = 7 := by
      rw [i_7, n_eq (by omega) (by omega)]; exact q
    refine ⟨_, _, upx X 3 s v, ?_, ?_, hE, XC.rf, fun z => absurd z q⟩
    · rw [bq_e hlw, lt_k, e449, if_neg c7]
    · rw [hrw]
      unfold fX14_doStep_166
      simp (disch := omega) only [n_gi, n_cl, b0, e1794, ez3, c7, lt_k, ↓reduceIte]
theorem r_step (hB : EB P g d σ0 ρ0) (h : ER P d σ0 ρ0 τ X σ ρ) (hs : s < dN d) (hk0 : dK d s ≠ 0) (h12 : X 12 0 = 0) (hE : E ≤ 1000) (hr : Rdy d E X s) :
    ∃ σ' ρ' X', (bq (fX1_lookAtNewRows (nI s) P s 0 σ) fun _ σ6 => bq (fX1_lookAtNewRows (nI s) P s 1 σ6) fun _ σ10 => bq (fX1_leastWatermark P s σ10) fun v13 σ14 => lt (sI σ14 461 P s 0 v13) fun σ17 => if zI σ17 449 P s 0 = 7 then fX1_closeWindows (nI s) P s σ17 else some ((), σ17)) = some ((), σ') ∧ fX14_doStep (nI s) ρ = some ((), ρ') ∧ ER P d σ0 ρ0 τ X' σ' ρ' ∧ XS s X X' ∧ Rdy d E X' s ∧ Fin7 d X' s ∧ X 3 s ≤ X' 3 s := by
  obtain ⟨hW, hPC, hPR, hz, hz3, hP⟩ := hB.fr h
  have hR := hPR.2.2.1 s hs
  have hN := hW.n
  have hAs := hW.a hs hk0
  have k7 := (hW.2.2.1 s hs).1
  have h1794 := hR.2.1
  have h1797 := hR.2.2.2.2.1
  have h1798 := hR.2.2.2.2.2.1
  rw [if_neg hk0] at h1797
  have b0 : s < 12 := by omega
  obtain ⟨r1, r2, r3, r4, r5, r6, r7, r8, r9⟩ := hr
  obtain ⟨TA, _⟩ := h.2.2.2.1 (dA d s) (by omega)
  have hTB : dK d s = 4 ∨ dK d s = 5 → dB d s < s ∧ X 0 (dB d s) ≤ 200 := fun k => by
    have := (hW.2.2.1 s hs).2.2.2.2.2.2.1 k
    exact ⟨this, (h.2.2.2.1 (dB d s) (by omega)).1⟩
  have hi0 : fX1_inputOf P s 0 σ = some (some (P, dA d s), σ) := in_0 hB h hs hk0
  have c02 : gi 0 2 := (n_gi (a := 0) (by omega)).mpr (by omega)
  have c12 : gi 1 2 := (n_gi (a := 1) (by omega)).mpr (by omega)
  have ff : ∀ n, n ≤ 200 → n < FU := fun n hn => by unfold FU; omega
  obtain ⟨_, _, _, h1486, _, _, _⟩ := h.2.2.2.2.1 s hs
  rw [r1] at h1486
  have hl0 : fX1_lookAtNewRows (nI s) P s 0 σ = fX1_lookAtNewRows_22 (nI s) P s (nI 0) FU P (dA d s) (nI (X 7 s)) σ := by
    unfold fX1_lookAtNewRows
    rw [bq_e hi0]
    simp only [nn]
    rw [if_pos c02]
    have : zI σ 1486 P s (Int32.toNatClampNeg 0) = nI (X 7 s) := h1486
    rw [this]
    rfl
  have hd0 : fX14_doStep (nI s) ρ = if nI (dK d s) = 5 then (bq (fX14_doJoin (nI s) ρ) fun _ ρ50 => fX14_doStep_132 (nI s) (nI (dA d s)) (if dK d s = 4 ∨ dK d s = 5 then nI (dB d s) else -1) ρ50) else fX14_doStep_41 (nI s) FU (nI (dA d s)) (if dK d s = 4 ∨ dK d s = 5 then nI (dB d s) else -1) ρ := by
    unfold fX14_doStep
    simp (disch := omega) only [hz3, h1794, h1797, h1798, n_gi, n_cl, b0, ↓reduceIte]
  -- the rows
  have rows : ∃ σ6 σ10 ρ10 X2, fX1_lookAtNewRows (nI s) P s 0 σ = some ((), σ6) ∧ fX1_lookAtNewRows (nI s) P s 1 σ6 = some ((), σ10) ∧ fX14_doStep (nI s) ρ = fX14_doStep_132 (nI s) (nI (dA d s)) (if dK d s = 4 ∨ dK d s = 5 then nI (dB d s) else -1) ρ10 ∧ ER P d σ0 ρ0 τ X2 σ10 ρ10 ∧ XD d s X X2 ∧ X2 7 s = X 0 (dA d s) ∧ X2 1 s = X 0 (dA d s) ∧ X2 2 s = X2 8 s ∧ (dK d s = 4 ∨ dK d s = 5 → X2 8 s = X 0 (dB d s)) ∧ X2 8 s ≤ 200 ∧ X2 9 s ≤ X2 7 s + X2 8 s + E ∧ (dK d s = 6 → X2 11 s = X2 7 s) := by
    by_cases q5 : dK d s = 5
    · obtain ⟨hBs, TB2⟩ := hTB (Or.inr q5)
      have r4 := r4 (Or.inr q5)
      obtain ⟨σ6, ρ6, X1, u1, u2, u3, u4, u5, u6, u7, u8, u9⟩ := r_jl0 hB hs q5 (X 0 (dA d s) - X 7 s) FU FU X σ ρ (by omega) (ff _ (by omega)) (ff _ (by omega)) h r2 r4
      have xb : X1 0 (dB d s) = X 0 (dB d s) := u4.1 0 _ (by omega) (by decide) (by decide)
      obtain ⟨σ10, ρ10, X2, v1, v2, v3, v4, v5, v6, v7, v8, v9⟩ := r_jl1 hB hs q5 (X1 0 (dB d s) - X1 8 s) FU FU X1 σ6 ρ6 (by omega) (ff _ (by omega)) (ff _ (by omega)) u3
      have hi1 : fX1_inputOf P s 1 σ6 = some (some (P, dB d s), σ6) := in_1 hB u3 hs (Or.inr q5)
      obtain ⟨_, _, _, _, h1486b, _, _⟩ := u3.2.2.2.2.1 s hs
      have e8 : X1 2 s = X1 8 s := by omega
      rw [e8] at h1486b
      have hl1 : fX1_lookAtNewRows (nI s) P s 1 σ6 = fX1_lookAtNewRows_22 (nI s) P s (nI 1) FU P (dB d s) (nI (X1 8 s)) σ6 := by
        unfold fX1_lookAtNewRows
        rw [bq_e hi1]
        simp only [nn]
        rw [if_pos c12]
        have : zI σ6 1486 P s (Int32.toNatClampNeg 1) = nI (X1 8 s) := h1486b
        rw [this]
        rfl
      have hdj : fX14_doJoin (nI s) ρ = some ((), ρ10) := by
        unfold fX14_doJoin
        rw [if_pos (Or.inr q5)] at h1798
        simp (disch := omega) only [hz3, h1797, h1798, n_gi, n_cl, b0, ↓reduceIte]
        rw [u2]; exact v2
      refine ⟨σ6, σ10, ρ10, X2, hl0.trans u1, hl1.trans v1, ?_, v3, u4.tr v4, by omega, by omega, by omega, fun _ => by omega, by omega, by omega, fun q => by omega⟩
      rw [hd0, if_pos (by rw [q5]; decide), bq_e hdj]
    · have c5 : ¬ (nI (dK d s) : Int32) = 5 := by
        rw [i_5, n_eq (by omega) (by omega)]; exact q5
      obtain ⟨σ6, ρ6, X1, u1, u2, u3, u4, u5, u6, u7, u8, u9, u10⟩ := r_look0 (y3 := if dK d s = 4 ∨ dK d s = 5 then nI (dB d s) else -1) hB hs hk0 q5 (X 0 (dA d s) - X 7 s) FU FU X σ ρ (by omega) (ff _ (by omega)) (ff _ (by omega)) h h12 (by omega) r5
      have hd1 : fX14_doStep (nI s) ρ = fX14_doStep_84 (nI s) FU (nI (dA d s)) (if dK d s = 4 ∨ dK d s = 5 then nI (dB d s) else -1) ρ6 := by
        rw [hd0, if_neg c5]; exact u2
      by_cases q4 : dK d s = 4
      · obtain ⟨hBs, TB2⟩ := hTB (Or.inl q4)
        have r4 := r4 (Or.inl q4)
        have xb : X1 0 (dB d s) = X 0 (dB d s) := u4.1 0 _ (by omega) (by decide) (by decide)
        obtain ⟨σ10, ρ10, X2, v1, v2, v3, v4, v5, v6, v7, v8, v9⟩ := r_look1 hB hs q4 (X1 0 (dB d s) - X1 8 s) FU FU X1 σ6 ρ6 (by omega) (ff _ (by omega)) (ff _ (by omega)) u3 (by rw [u4.2.2.1]; exact h12) (by omega)
        have hi1 : fX1_inputOf P s 1 σ6 = some (some (P, dB d s), σ6) := in_1 hB u3 hs (Or.inl q4)
        obtain ⟨_, _, _, _, h1486b, _, _⟩ := u3.2.2.2.2.1 s hs
        have e8 : X1 2 s = X1 8 s := by omega
        rw [e8] at h1486b
        have hl1 : fX1_lookAtNewRows (nI s) P s 1 σ6 = fX1_lookAtNewRows_22 (nI s) P s (nI 1) FU P (dB d s) (nI (X1 8 s)) σ6 := by
          unfold fX1_lookAtNewRows
          rw [bq_e hi1]
          simp only [nn]
          rw [if_pos c12]
          have : zI σ6 1486 P s (Int32.toNatClampNeg 1) = nI (X1 8 s) := h1486b
          rw [this]
          rfl
        refine ⟨σ6, σ10, ρ10, X2, hl0.trans u1, hl1.trans v1, ?_, v3, u4.tr v4, by omega, by omega, by omega, fun _ => by omega, by omega, by omega, fun q => by omega⟩
        rw [hd1, if_pos (Or.inl q4)]; exact v2
      · have q45 : ¬ (dK d s = 4 ∨ dK d s = 5) := by omega
        have hi1 : fX1_inputOf P s 1 σ6 = some (none, σ6) := in_n hB u3 hs q45
        have hl1 : fX1_lookAtNewRows (nI s) P s 1 σ6 = some ((), σ6) := by
          unfold fX1_lookAtNewRows
          rw [bq_e hi1]
          simp only [nn]
        refine ⟨σ6, σ6, ρ6, X1, hl0.trans u1, hl1, ?_, u3, u4, by omega, by omega, by omega, fun q => absurd q q45, by omega, by omega, u10⟩
        rw [hd1, if_neg q45]
        obtain ⟨n, hn⟩ : ∃ n, FU = n + 1 := ⟨FU - 1, by unfold FU; omega⟩
        rw [hn, fX14_doStep_84, if_pos rfl]
  obtain ⟨σ6, σ10, ρ10, X2, u1, u2, u3, u4, u5, u6, u7, u8, u9, u10, u11, u12⟩ := rows
  have xi : ∀ i, i ≠ s → X2 3 i = X 3 i := fun i hi => u5.1 3 i hi (by decide) (by decide)
  have x0 : ∀ i, i ≠ s → X2 0 i = X 0 i := fun i hi => u5.1 0 i hi (by decide) (by decide)
  have xsa : X2 3 (dA d s) = X 3 (dA d s) := xi _ (by omega)
  have xss : X2 3 s = X 3 s := u5.2.1
  obtain ⟨v, hv⟩ : ∃ v, v = (if dK d s = 4 ∨ dK d s = 5 then min (X2 3 (dA d s)) (X2 3 (dB d s)) else X2 3 (dA d s)) := ⟨_, rfl⟩
  have h3v : X 3 s ≤ v := by
    rw [hv]
    split
    · rename_i k
      rw [xi (dA d s) (by omega), xi (dB d s) (by have := (hTB k).1; omega)]
      exact Nat.le_min.mpr ⟨r7, r8 k⟩
    · rw [xsa]; exact r7
  obtain ⟨σ', ρ', X', w1, w2, w3, w4, w5⟩ := r_wm hB u4 hs hk0 (by rw [u5.2.2.1]; exact h12) hv (by rw [xss]; exact h3v)
  have y : ∀ k i, ¬ (k = 0 ∧ i = s) → k ≠ 5 → ¬ (k = 4 ∧ i = s) → k ≤ 14 → ¬ (k = 3 ∧ i = s) → X' k i = X2 k i := fun k i q1 q2 q3 q4 q5 => (w4.1 k i q1 q2 q3 q4).trans (upx_n q5)
  have y3 : X' 3 s = v := (w4.1 3 s (by omega) (by omega) (by omega) (by omega)).trans upx_p
  have y1 := y 1 s (by omega) (by omega) (by omega) (by omega) (by omega)
  have y2 := y 2 s (by omega) (by omega) (by omega) (by omega) (by omega)
  have y7 := y 7 s (by omega) (by omega) (by omega) (by omega) (by omega)
  have y8 := y 8 s (by omega) (by omega) (by omega) (by omega) (by omega)
  have y9 := y 9 s (by omega) (by omega) (by omega) (by omega) (by omega)
  have y11 := y 11 s (by omega) (by omega) (by omega) (by omega) (by omega)
  have y0a : X' 0 (dA d s) = X 0 (dA d s) := (y 0 _ (by omega) (by omega) (by omega) (by omega) (by omega)).trans (x0 _ (by omega))
  have y3a : X' 3 (dA d s) = X2 3 (dA d s) := y 3 _ (by omega) (by omega) (by omega) (by omega) (by omega)
  have y0b : dK d s = 4 ∨ dK d s = 5 → X' 0 (dB d s) = X 0 (dB d s) := fun k => by
    have := (hTB k).1
    exact (y 0 _ (by omega) (by omega) (by omega) (by omega) (by omega)).trans (x0 _ (by omega))
  have y3b : dK d s = 4 ∨ dK d s = 5 → X' 3 (dB d s) = X2 3 (dB d s) := fun k => by
    have := (hTB k).1
    exact y 3 _ (by omega) (by omega) (by omega) (by omega) (by omega)
  refine ⟨σ', ρ', X', ?_, ?_, w3, ⟨fun k i q1 q2 q3 => (y k i (by omega) q2 (by omega) (by omega) (by omega)).trans (u5.1 k i q1 q2 q3), (y 12 0 (by omega) (by omega) (by omega) (by omega) (by omega)).trans u5.2.2.1, ?_, fun k i q1 q2 => ?_⟩, ⟨by omega, by omega, by omega, fun k => by rw [y0b k, y8, u9 k]; exact Nat.le_refl _, fun k => by rw [y11, y7]; exact u12 k, by omega, ?_, fun k => ?_, by omega⟩, ⟨by omega, fun k => by rw [y0b k, y8, u9 k], ?_, w5⟩, by omega⟩
  · rw [bq_e u1, bq_e u2]; exact w1
  · rw [u3]; exact w2
  · have q1 := w4.2.1
    rw [upx_n (by omega)] at q1
    have := u5.2.2.2.1
    omega
  · rw [w4.2.2 k i q1 q2, upx_n (by omega)]
    exact u5.2.2.2.2 k i q1 q2
  · rw [y3, y3a, hv]
    split
    · exact Nat.min_le_left _ _
    · exact Nat.le_refl _
  · rw [y3, y3b k, hv, if_pos k]
    exact Nat.min_le_right _ _
  · rw [y3, hv, y3a]
    by_cases k : dK d s = 4 ∨ dK d s = 5
    · rw [if_pos k, if_pos k, y3b k]
    · rw [if_neg k, if_neg k]
theorem r_steps_l (hB : EB P g d σ0 ρ0) (hE : E ≤ 1000) : ∀ (k y n m : Nat) (X : Nat → Nat → Nat) (σ ρ : Zs), y + k = dN d → k < n → k < m → ER P d σ0 ρ0 τ X σ ρ → Good d E X → (∀ s, s < y → dK d s ≠ 0 → Fin7 d X s) →
    Wp2 (fX1_runSteps_2 n (nI y) σ) (fX14_doSteps_2 m (nI y) ρ) (fun _ σ' _ ρ' => ∃ X', ER P d σ0 ρ0 τ X' σ' ρ' ∧ Good d E X' ∧ Setl d X') := by
  intro k
  induction k with
  | zero =>
    intro y n m X σ ρ h1 h2 h3 h hG hF
    obtain ⟨n, rfl⟩ : ∃ j, n = j + 1 := ⟨n - 1, by omega⟩
    obtain ⟨m, rfl⟩ : ∃ j, m = j + 1 := ⟨m - 1, by omega⟩
    obtain ⟨hW, hPC, hPR, hz, hz3, hP⟩ := hB.fr h
    have hN := hW.n
    have e : y = dN d := by omega
    subst e
    have b1 : dN d ≤ dN d := Nat.le_refl _
    rw [fX1_runSteps_2, fX14_doSteps_2]
    simp (disch := omega) only [hz, hz3, hPC.1, hPR.1, n_le, b1, ↓reduceIte]
    exact ⟨X, h, hG, hF⟩
  | succ k ih =>
    intro y n m X σ ρ h1 h2 h3 h hG hF
    obtain ⟨n, rfl⟩ : ∃ j, n = j + 1 := ⟨n - 1, by omega⟩
    obtain ⟨m, rfl⟩ : ∃ j, m = j + 1 := ⟨m - 1, by omega⟩
    obtain ⟨hW, hPC, hPR, hz, hz3, hP⟩ := hB.fr h
    have hN := hW.n
    have hs : y < dN d := by omega
    have hC := hPC.2.2.choose_spec.2.2.1 y hs
    have hR := hPR.2.2.1 y hs
    have k7 := (hW.2.2.1 y hs).1
    have h449 := hC.2.1
    have h1794 := hR.2.1
    have b0 : y < 12 := by omega
    have b1 : ¬ dN d ≤ y := by omega
    rw [fX1_runSteps_2, fX14_doSteps_2]
    simp (disch := omega) only [hz, hz3, hPC.1, hPR.1, n_le, n_gi, n_cl, b0, b1, h449, h1794, ↓reduceIte]
    by_cases q : dK d y = 0
    · have c0 : (nI (dK d y) : Int32) = 0 := by rw [q]; rfl
      simp only [c0, ↓reduceIte, i_1, n_add]
      refine ih (y + 1) n m X σ ρ (by omega) (by omega) (by omega) h hG (fun s hs2 hk => ?_)
      by_cases e : s = y
      · subst e; exact absurd q hk
      · exact hF s (by omega) hk
    · have c0 : ¬ (nI (dK d y) : Int32) = 0 := by
        rw [i_0, n_eq (by omega) (by omega)]; exact q
      obtain ⟨σ', ρ', X', u1, u2, u3, u4, u5, u6, u7⟩ := r_step hB h hs q hG.1 hE (hG.2 y hs q)
      simp only [c0, ↓reduceIte]
      rw [bq_e u2]
      have key : Wp2 (fX1_runSteps_2 n (nI (y + 1)) σ') (fX14_doSteps_2 m (nI (y + 1)) ρ') (fun _ σ' _ ρ' => ∃ X', ER P d σ0 ρ0 τ X' σ' ρ' ∧ Good d E X' ∧ Setl d X') := by
        refine ih (y + 1) n m X' σ' ρ' (by omega) (by omega) (by omega) u3 ⟨by rw [u4.2.1]; exact hG.1, fun s hs2 hk => ?_⟩ (fun s hs2 hk => ?_)
        · by_cases e : s = y
          · subst e; exact u5
          · obtain ⟨r1, r2, r3, r4, r5, r6, r7, r8, r9⟩ := hG.2 s hs2 hk
            have f : ∀ k, k ≠ 5 → k ≤ 11 → X' k s = X k s := fun k a b => u4.1 k s e a b
            have g0 : ∀ i, X 0 i ≤ X' 0 i := fun i => by
              by_cases e2 : i = y
              · subst e2; exact u4.2.2.1
              · exact Nat.le_of_eq (u4.1 0 i e2 (by decide) (by decide)).symm
            have g3 : ∀ i, X 3 i ≤ X' 3 i := fun i => by
              by_cases e2 : i = y
              · subst e2; exact u7
              · exact Nat.le_of_eq (u4.1 3 i e2 (by decide) (by decide)).symm
            unfold Rdy
            rw [f 1 (by decide) (by decide), f 2 (by decide) (by decide), f 7 (by decide) (by decide), f 8 (by decide) (by decide), f 11 (by decide) (by decide), f 9 (by decide) (by decide), f 3 (by decide) (by decide)]
            exact ⟨r1, r2, Nat.le_trans r3 (g0 _), fun q => Nat.le_trans (r4 q) (g0 _), r5, r6, Nat.le_trans r7 (g3 _), fun q => Nat.le_trans (r8 q) (g3 _), r9⟩
        · by_cases e : s = y
          · subst e; exact u6
          · obtain ⟨r1, r2, r3, r4⟩ := hF s (by omega) hk
            have hAs := hW.a (by omega : s < dN d) hk
            have f : ∀ k i, i ≠ y → k ≠ 5 → k ≤ 11 → X' k i = X k i := fun k i z a b => u4.1 k i z a b
            unfold Fin7
            rw [f 7 s e (by decide) (by decide), f 8 s e (by decide) (by decide), f 3 s e (by decide) (by decide), f 0 (dA d s) (by omega) (by decide) (by decide), f 3 (dA d s) (by omega) (by decide) (by decide)]
            refine ⟨r1, fun k => ?_, ?_, fun k => ?_⟩
            · have := (hW.2.2.1 s (by omega)).2.2.2.2.2.2.1 k
              rw [f 0 (dB d s) (by omega) (by decide) (by decide)]; exact r2 k
            · by_cases k : dK d s = 4 ∨ dK d s = 5
              · have := (hW.2.2.1 s (by omega)).2.2.2.2.2.2.1 k
                rw [if_pos k] at r3 ⊢
                rw [f 3 (dB d s) (by omega) (by decide) (by decide)]; exact r3
              · rw [if_neg k] at r3 ⊢; exact r3
            · intro w hw
              rw [f 4 s e (by decide) (by decide)] at hw
              have h60 := (h.2.2.2.2.2.1 s (by omega)).1
              rw [f 3 s e (by decide) (by decide), u4.2.2.2 15 _ (Or.inl rfl) (by omega), u4.2.2.2 16 _ (Or.inr rfl) (by omega)]
              exact r4 k w hw
      have hK : ∀ K : Zs → Option (Unit × Zs), (bq (fX1_lookAtNewRows (nI y) P y 0 σ) fun _ σ6 => bq (fX1_lookAtNewRows (nI y) P y 1 σ6) fun _ σ10 => bq (fX1_leastWatermark P y σ10) fun v13 σ14 => lt (sI σ14 461 P y 0 v13) fun σ17 => if zI σ17 449 P y 0 = 7 then (bq (fX1_closeWindows (nI y) P y σ17) fun _ σ20 => K σ20) else K σ17) = K σ' := by
        intro K
        have := congrArg (fun o => bq o fun _ z => K z) u1
        simp only [bq_bq, lt_k, bq_ite, bq_s] at this
        simp only [lt_k]
        exact this
      rw [i_1, n_add]
      have := hK (fun z => fX1_runSteps_2 n (nI (y + 1)) z)
      rw [i_1] at this
      rw [this]
      exact key
theorem r_steps (hB : EB P g d σ0 ρ0) (h : ER P d σ0 ρ0 τ X σ ρ) (hE : E ≤ 1000) (hG : Good d E X) : Wp2 (fX1_runSteps σ) (fX14_doSteps ρ) (fun _ σ' _ ρ' => ∃ X', ER P d σ0 ρ0 τ X' σ' ρ' ∧ Good d E X' ∧ Setl d X') := by
  have hN := hB.1.1
  have ff : dN d < FU := by unfold FU; omega
  exact r_steps_l hB hE (dN d) 0 FU FU X σ ρ (by omega) ff ff h hG (fun s hs _ => by omega)
end SP
