/-! WINDOWS ARE CLOSED: which is next -/
def opn (X : Nat → Nat → Nat) (s : Nat) : Nat → Nat
  | 0 => 0
  | w + 1 => opn X s w + (if X 15 (60 * s + w) = 0 then 1 else 0)
theorem opn_le {X : Nat → Nat → Nat} {s : Nat} : ∀ k, opn X s k ≤ k := by
  intro k
  induction k with
  | zero => exact Nat.le_refl _
  | succ k ih => unfold opn; split <;> omega
theorem opn_eq {X Y : Nat → Nat → Nat} {s : Nat} : ∀ k, (∀ w, w < k → Y 15 (60 * s + w) = X 15 (60 * s + w)) → opn Y s k = opn X s k := by
  intro k
  induction k with
  | zero => intro _; rfl
  | succ k ih =>
    intro h
    unfold opn
    rw [ih (fun w hw => h w (by omega)), h k (by omega)]
theorem opn_close {X : Nat → Nat → Nat} {s v : Nat} (h0 : X 15 (60 * s + v) = 0) : ∀ k, v < k → opn (upx X 15 (60 * s + v) 1) s k + 1 = opn X s k := by
  intro k
  induction k with
  | zero => intro h; omega
  | succ k ih =>
    intro h
    by_cases e : v = k
    · subst e
      unfold opn
      rw [opn_eq v (X := X) (fun w hw => if_neg (by omega)), if_pos h0, if_neg]
      show ¬ (if 15 = 15 ∧ 60 * s + v = 60 * s + v then 1 else _) = 0
      rw [if_pos ⟨rfl, rfl⟩]
      decide
    · have := ih (by omega)
      unfold opn
      have e2 : upx X 15 (60 * s + v) 1 15 (60 * s + k) = X 15 (60 * s + k) := if_neg (by omega)
      rw [e2]
      omega
/-- window v is to be closed -/
def cnd (d : Pd) (X : Nat → Nat → Nat) (s v : Nat) : Prop := v < X 4 s ∧ X 15 (60 * s + v) = 0 ∧ X 16 (60 * s + v) + dS d s + 1 ≤ X 3 s
def encB : Option Nat → Int32
  | none => -nI 1
  | some v => nI v
section CL
variable {P g : Nat} {d : Pd} {σ0 ρ0 : Zs} {τ : Prop} {X : Nat → Nat → Nat} {σ ρ : Zs} {s : Nat}
theorem end_R {w b n : Nat} (hs : s < 12) (hw : w < 60) (h98 : zR ρ 898 0 0 0 = (g, 0)) (h1799 : zI ρ 1799 g 0 s = nI n) (hb : zI ρ 1960 0 0 (60 * s + w) = nI b) : fX14_endOf (nI s) (nI w) ρ = some (nI (b + n), ρ) := by
  unfold fX14_endOf
  have b2 : 60 * s + w < 720 := by omega
  simp (disch := omega) only [h98, h1799, hb, i_12, i_60, n_mul, n_add, n_gi, n_cl, hs, b2, ↓reduceIte]
def finC (P s : Nat) (σ : Zs) : Option Nat → Option (Int32 × Zs)
  | none => some (-nI 1, σ)
  | some v => some (nI v, sI σ 1667 P s v 1)
noncomputable def finR (s : Nat) (k2 : Int32 → Zs → Option (Unit × Zs)) (ρ : Zs) : Option Nat → Option (Unit × Zs)
  | none => k2 0 ρ
  | some v => bq (fX14_offerWindow (nI s) (nI v) (sI ρ 1961 0 0 (60 * s + v) 1)) fun _ z => k2 1 z
theorem r_next_l {k2 : Int32 → Zs → Option (Unit × Zs)} (hB : EB P g d σ0 ρ0) (h : ER P d σ0 ρ0 τ X σ ρ) (hs : s < dN d) (hk7 : dK d s = 7) : ∀ (k y n m : Nat) (B : Option Nat), y + k = X 4 s → k < n → k < m → (∀ v, B = some v → cnd d X s v) → (B = none → ∀ v, v < y → ¬ cnd d X s v) →
    ∃ B', fX10_closeNext_4 P s (wmv (X 3 s)) n (encB B) (nI y) σ = finC P s σ B' ∧ fX14_closeWindows_11 (nI s) k2 m (encB B) (nI y) ρ = finR s k2 ρ B' ∧ (∀ v, B' = some v → cnd d X s v) ∧ (B' = none → ∀ v, v < X 4 s → ¬ cnd d X s v) := by
  obtain ⟨hW, hPC, hPR, hz, hz3, hP⟩ := hB.fr h
  have hR := hPR.2.2.1 s hs
  have hN := hW.n
  have h1799 : zI ρ 1799 g 0 s = nI (dS d s) := hR.2.2.2.2.2.2.2.2.1 (Or.inr (by omega))
  obtain ⟨a1, a2, a3, a4, a5⟩ := h.2.2.2.2.2.1 s hs
  obtain ⟨sn1, sn2, sn3, _⟩ := h.2.2.2.2.1 s hs
  have hTB2 : TB s < 2000000 := by unfold TB; omega
  have b0 : s < 12 := by omega
  intro k
  induction k with
  | zero =>
    intro y n m B h1 h2 h3 h4 h5
    obtain ⟨n, rfl⟩ : ∃ j, n = j + 1 := ⟨n - 1, by omega⟩
    obtain ⟨m, rfl⟩ : ∃ j, m = j + 1 := ⟨m - 1, by omega⟩
    have b1 : X 4 s ≤ y := by omega
    have ey : y = X 4 s := by omega
    refine ⟨B, ?_, ?_, h4, fun q v hv => h5 q v (by omega)⟩
    · rw [fX10_closeNext_4]
      cases B with
      | none =>
        have c1 : (-nI 1 : Int32) < 0 := by decide
        simp (disch := omega) only [a3, n_le, b1, encB, c1, ↓reduceIte, finC]
      | some v =>
        have hv := h4 v rfl
        have c1 : ¬ v < 0 := by omega
        have c2 : v < 60 := by have := hv.1; omega
        simp (disch := omega) only [a3, i_0, n_le, n_lt, n_gi, n_cl, b1, encB, c1, c2, ↓reduceIte, finC, lt_k]
    · rw [fX14_closeWindows_11]
      cases B with
      | none =>
        have c1 : (-nI 1 : Int32) = -1 := rfl
        have c2 : (0 : Int32) = 0 := rfl
        simp (disch := omega) only [a4, i_12, n_gi, n_cl, n_le, b0, b1, encB, c1, ↓reduceIte, finR, fX14_closeWindows_139]
      | some v =>
        have hv := h4 v rfl
        have c1 : ¬ (nI v : Int32) = -1 := fun q => (n_m1 (a := v) (by have := hv.1; omega)).mp q
        have c2 : 60 * s + v < 720 := by have := hv.1; omega
        have c3 : ¬ (1 : Int32) = 0 := by decide
        have hv60 : v < 60 := by have := hv.1; omega
        simp (disch := omega) only [a4, i_12, i_60, n_gi, n_cl, n_le, n_mul, n_add, b0, b1, encB, c1, c2, c3, ↓reduceIte, finR, fX14_closeWindows_139, lt_k]
  | succ k ih =>
    intro y n m B h1 h2 h3 h4 h5
    obtain ⟨n, rfl⟩ : ∃ j, n = j + 1 := ⟨n - 1, by omega⟩
    obtain ⟨m, rfl⟩ : ∃ j, m = j + 1 := ⟨m - 1, by omega⟩
    have b1 : ¬ X 4 s ≤ y := by omega
    have b2 : ¬ 60 ≤ y := by omega
    have b3 : y < 60 := by omega
    have b4 : 60 * s + y < 720 := by omega
    obtain ⟨b', z, cl', hb0, hc0, k1, k2', k3, k4, k5, k6, k7, _⟩ := a5 y (by omega)
    have hendy := end_R b0 b3 hz3 h1799 k4
    rw [fX10_closeNext_4, fX14_closeWindows_11]
    simp (disch := omega) only [a3, a4, k3, k6, k7, i_0, i_1, i_12, i_60, n_mul, n_add, n_le, n_gi, n_cl, n_eq, b0, b1, b2, b3, b4, ↓reduceIte]
    by_cases e : cl' = 0
    · simp only [e, ↓reduceIte]
      rw [bq_e hendy]
      have c5 : wmv (X 3 s) < nI (b' + dS d s) ↔ X 3 s ≤ b' + dS d s := wm_lt (by omega) (by omega)
      have c6 : nI (b' + dS d s) ≤ wmv (X 3 s) ↔ b' + dS d s + 1 ≤ X 3 s := wm_le (by omega) (by omega)
      simp (disch := omega) only [sn2, i_12, n_gi, n_cl, b0, c5, c6, ↓reduceIte]
      by_cases e2 : X 3 s ≤ b' + dS d s
      · have e3 : ¬ b' + dS d s + 1 ≤ X 3 s := by omega
        simp only [e2, e3, ↓reduceIte]
        refine ih (y + 1) n m B (by omega) (by omega) (by omega) h4 (fun q v hv => ?_)
        by_cases e4 : v = y
        · subst e4
          rintro ⟨_, _, q3⟩
          rw [← hb0] at q3
          exact e3 q3
        · exact h5 q v (by omega)
      · have e3 : b' + dS d s + 1 ≤ X 3 s := by omega
        have hcy : cnd d X s y := ⟨by omega, by rw [← hc0]; exact e, by rw [← hb0]; exact e3⟩
        simp only [e2, e3, ↓reduceIte]
        cases B with
        | none =>
          have c1 : (-nI 1 : Int32) < nI 0 := by decide
          have c2 : (-nI 1 : Int32) = -nI 1 := rfl
          simp only [encB, c1, ↓reduceIte]
          exact ih (y + 1) n m (some y) (by omega) (by omega) (by omega) (fun v q => by cases q; exact hcy) (fun q => by cases q)
        | some v =>
          have hv := h4 v rfl
          have hv4 := hv.1
          have c1 : ¬ v < 0 := by omega
          have c2 : v < 60 := by omega
          have c4 : 60 * s + v < 720 := by omega
          obtain ⟨bv, zv, clv, hbv, hcv, g1, g2, g3, g4, _⟩ := a5 v hv.1
          have hendv := end_R b0 c2 hz3 h1799 g4
          have hah : fX10_isAhead P s (nI y) (nI v) σ = some (if b' + dS d s < bv + dS d s then 1 else if b' + dS d s = bv + dS d s then (if 0 ≤ lg_cmp (zJ ρ 1959 0 0 (60 * s + y)) (zJ ρ 1959 0 0 (60 * s + v)) then 0 else 1) else 0, σ) := by
            unfold fX10_isAhead
            simp (disch := omega) only [n_gi, n_cl, b3, c2, k3, g3, k2', g2, n_lt, n_eq, ↓reduceIte]
            by_cases q1 : b' + dS d s < bv + dS d s
            · simp only [q1, ↓reduceIte]
            · by_cases q2 : b' + dS d s = bv + dS d s
              · by_cases q3 : 0 ≤ lg_cmp (zJ ρ 1959 0 0 (60 * s + y)) (zJ ρ 1959 0 0 (60 * s + v))
                · simp only [q2, q3, Nat.lt_irrefl, ↓reduceIte]
                · simp only [q2, q3, Nat.lt_irrefl, ↓reduceIte]
              · simp only [q1, q2, ↓reduceIte]
          simp (disch := omega) only [encB, n_lt, n_m1, c1, ↓reduceIte]
          rw [bq_e hah, bq_e hendy, bq_e hendv]
          by_cases q1 : b' + dS d s < bv + dS d s
          · have q0 : ¬ (1 : Int32) = nI 0 := by decide
            simp (disch := omega) only [q1, q0, n_lt, ↓reduceIte]
            exact ih (y + 1) n m (some y) (by omega) (by omega) (by omega) (fun v q => by cases q; exact hcy) (fun q => by cases q)
          · simp (disch := omega) only [q1, n_lt, ↓reduceIte]
            rw [bq_e hendy, bq_e hendv]
            by_cases q2 : b' + dS d s = bv + dS d s
            · by_cases q3 : 0 ≤ lg_cmp (zJ ρ 1959 0 0 (60 * s + y)) (zJ ρ 1959 0 0 (60 * s + v))
              · have q0 : (0 : Int32) = nI 0 := rfl
                have q3' : nI 0 ≤ lg_cmp (zJ ρ 1959 0 0 (60 * s + y)) (zJ ρ 1959 0 0 (60 * s + v)) := q3
                simp (disch := omega) only [q2, q3, q3', n_eq, n_gi, n_cl, b4, c4, i_60, n_mul, n_add, ↓reduceIte, q0]
                exact ih (y + 1) n m (some v) (by omega) (by omega) (by omega) h4 (fun q => by cases q)
              · have q0 : ¬ (1 : Int32) = nI 0 := by decide
                have q3' : ¬ nI 0 ≤ lg_cmp (zJ ρ 1959 0 0 (60 * s + y)) (zJ ρ 1959 0 0 (60 * s + v)) := q3
                simp (disch := omega) only [q2, q3, q3', q0, n_eq, n_gi, n_cl, b4, c4, i_60, n_mul, n_add, ↓reduceIte]
                exact ih (y + 1) n m (some y) (by omega) (by omega) (by omega) (fun v q => by cases q; exact hcy) (fun q => by cases q)
            · have q0 : (0 : Int32) = nI 0 := rfl
              simp (disch := omega) only [q2, q0, n_eq, ↓reduceIte]
              exact ih (y + 1) n m (some v) (by omega) (by omega) (by omega) h4 (fun q => by cases q)
    · simp only [e, ↓reduceIte]
      refine ih (y + 1) n m B (by omega) (by omega) (by omega) h4 (fun q v hv => ?_)
      by_cases e4 : v = y
      · subst e4
        rintro ⟨_, q2, _⟩
        exact e (by rw [hc0]; exact q2)
      · exact h5 q v (by omega)
theorem ER.flag {v : Nat} (h : ER P d σ0 ρ0 τ X σ ρ) (hN : dN d ≤ 12) (hs : s < dN d) (hv : v < X 4 s) : ER P d σ0 ρ0 τ (upx X 15 (60 * s + v) 1) (sI σ 1667 P s v 1) (sI ρ 1961 0 0 (60 * s + v) 1) := by
  obtain ⟨hT, hFC, hFR, hTab, hSeen, hWin, hHeld, hChk, hSc, hGiv⟩ := h
  refine ⟨hT, hFC.I (by simp [wC]), hFR.I (by decide), hTab, hSeen, fun a ha => ?_, hHeld, hChk, hSc, hGiv⟩
  obtain ⟨a1, a2, a3, a4, a5⟩ := hWin a ha
  have s60 := (hWin s hs).1
  refine ⟨a1, a2, a3, a4, fun w hw => ?_⟩
  obtain ⟨b, z, cl, hb0, hc0, b1, b2, b3, b4, b5, b6, b7, b8⟩ := a5 w hw
  have hw4 : w < X 4 a := hw
  by_cases e : a = s ∧ w = v
  · obtain ⟨rfl, rfl⟩ := e
    refine ⟨b, z, 1, hb0, (if_pos ⟨rfl, rfl⟩).symm, b1, b2, b3, b4, by omega, ?_, ?_, b8⟩
    · rw [zI_sI, if_pos ⟨rfl, rfl, rfl, rfl⟩]; rfl
    · rw [zI_sI, if_pos ⟨rfl, rfl, rfl, rfl⟩]; rfl
  · have e3 : ¬ (60 * a + w = 60 * s + v) := fun q => e (by omega)
    refine ⟨b, z, cl, hb0, hc0.trans (if_neg (fun q => e3 q.2)).symm, b1, b2, b3, b4, b5, ?_, ?_, b8⟩
    · rw [zI_sI, if_neg (fun q => e ⟨q.2.2.1, q.2.2.2⟩)]; exact b6
    · rw [zI_sI, if_neg (fun q => e3 q.2.2.2)]; exact b7
end CL
