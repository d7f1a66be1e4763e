/-! A DESK WITHOUT ROWS -/
/-- the class's cells, when the first k streams have lost their rows -/
def drC (z : Zs) (P k : Nat) : Zs := (fun c p s i => if (c = 512 ∨ c = 640) ∧ i = 0 ∧ p = P ∧ s < k then 0 else if c = 513 ∧ i = 0 ∧ p = P ∧ s < k then zI z 450 P s 0 else if c = 461 ∧ i = 0 ∧ p = P ∧ s < k then -1 else if c = 1486 ∧ i < 2 ∧ p = P ∧ s < k then 0 else zI z c p s i, zJ z, zR z)
theorem zI_drC (z : Zs) (P k c p s i : Nat) : zI (drC z P k) c p s i = if (c = 512 ∨ c = 640) ∧ i = 0 ∧ p = P ∧ s < k then 0 else if c = 513 ∧ i = 0 ∧ p = P ∧ s < k then zI z 450 P s 0 else if c = 461 ∧ i = 0 ∧ p = P ∧ s < k then -1 else if c = 1486 ∧ i < 2 ∧ p = P ∧ s < k then 0 else zI z c p s i := rfl
theorem dr_C {P s : Nat} {σ : Zs} : fX7_dropRows P s (drC σ P s) = some ((), drC σ P (s + 1)) := by
  unfold fX7_dropRows fX8_clear fX10_clear
  have b0 : 0 < 2 := by decide
  have b1 : 1 < 2 := by decide
  simp (disch := omega) only [i_0, i_1, n_gi, n_cl, b0, b1, ↓reduceIte, lt_k, bq_s]
  refine congrArg (fun z => some ((), z)) (zs_ext (fun c p s i => ?_) (fun _ _ _ _ => rfl) (fun _ _ _ _ => rfl))
  simp only [zI_sI, zI_drC]
  have m0 : (nI 0 : Int32) = 0 := rfl
  have m1 : (-nI 1 : Int32) = -1 := rfl
  simp only [m0, m1]
  grind (splits := 40)
/-- .. and the first k checks have none broken -/
def ckC (z : Zs) (P k : Nat) : Zs := (fun c p s i => if c = 4 ∧ p = P ∧ s < k ∧ i = 0 then 0 else zI z c p s i, zJ z, zR z)
theorem zI_ckC (z : Zs) (P k c p s i : Nat) : zI (ckC z P k) c p s i = if c = 4 ∧ p = P ∧ s < k ∧ i = 0 then 0 else zI z c p s i := rfl
def enC (z : Zs) : Zs := sI (sI (sI (sI z 66 0 0 0 0) 67 0 0 0 0) 68 0 0 0 0) 69 0 0 0 0
theorem st_C2 {P p1 M : Nat} (hM : M ≤ 8) : ∀ (k y n : Nat) (σ : Zs), y + k = M → k < n → zR σ 64 0 0 0 = (P, 0) → zI σ 323 P 0 0 = nI M → fX1_start_38 p1 n (nI y) (ckC σ P y) = some ((), enC (ckC σ P M)) := by
  intro k
  induction k with
  | zero =>
    intro y n σ h1 h2 h3 h4
    obtain ⟨n, rfl⟩ : ∃ j, n = j + 1 := ⟨n - 1, by omega⟩
    have ey : y = M := by omega
    subst ey
    have e1 : zR (ckC σ P y) 64 0 0 0 = (P, 0) := h3
    have e2 : zI (ckC σ P y) 323 P 0 0 = nI y := h4
    have e3 : y ≤ y := Nat.le_refl _
    rw [fX1_start_38]
    simp (disch := omega) only [e1, e2, n_le, e3, ↓reduceIte, lt_k]
    rfl
  | succ k ih =>
    intro y n σ h1 h2 h3 h4
    obtain ⟨n, rfl⟩ : ∃ j, n = j + 1 := ⟨n - 1, by omega⟩
    have e1 : zR (ckC σ P y) 64 0 0 0 = (P, 0) := h3
    have e2 : zI (ckC σ P y) 323 P 0 0 = nI M := h4
    have e3 : ¬ M ≤ y := by omega
    have e4 : y < 8 := by omega
    rw [fX1_start_38]
    simp (disch := omega) only [e1, e2, i_1, n_add, n_le, n_gi, n_cl, e3, e4, ↓reduceIte, lt_k]
    have e5 : sI (ckC σ P y) 4 P y 0 0 = ckC σ P (y + 1) := by
      refine zs_ext (fun c p s i => ?_) (fun _ _ _ _ => rfl) (fun _ _ _ _ => rfl)
      simp only [zI_sI, zI_ckC]
      grind
    rw [e5]
    exact ih (y + 1) n σ (by omega) (by omega) h3 h4
theorem st_C1 {P p1 N M : Nat} (hN : N ≤ 12) (hM : M ≤ 8) : ∀ (k y n : Nat) (σ : Zs), y + k = N → k < n → zR σ 64 0 0 0 = (P, 0) → zI σ 321 P 0 0 = nI N → zI σ 323 P 0 0 = nI M → fX1_start_7 p1 n (nI y) (drC σ P y) = some ((), enC (ckC (drC σ P N) P M)) := by
  intro k
  induction k with
  | zero =>
    intro y n σ h1 h2 h3 h4 h5
    obtain ⟨n, rfl⟩ : ∃ j, n = j + 1 := ⟨n - 1, by omega⟩
    have ey : y = N := by omega
    subst ey
    have e1 : zR (drC σ P y) 64 0 0 0 = (P, 0) := h3
    have e2 : zI (drC σ P y) 321 P 0 0 = nI y := h4
    have e5 : zI (drC σ P y) 323 P 0 0 = nI M := h5
    have e3 : y ≤ y := Nat.le_refl _
    have ff : M < FU := by unfold FU; omega
    rw [fX1_start_7]
    simp (disch := omega) only [e1, e2, n_le, e3, ↓reduceIte]
    have e0 : ckC (drC σ P y) P 0 = drC σ P y := zs_ext (fun c p s i => by rw [zI_ckC, if_neg (by omega)]) (fun _ _ _ _ => rfl) (fun _ _ _ _ => rfl)
    have := st_C2 (p1 := p1) hM M 0 FU (drC σ P y) (by omega) ff e1 e5
    rw [e0] at this
    exact this
  | succ k ih =>
    intro y n σ h1 h2 h3 h4 h5
    obtain ⟨n, rfl⟩ : ∃ j, n = j + 1 := ⟨n - 1, by omega⟩
    have e1 : zR (drC σ P y) 64 0 0 0 = (P, 0) := h3
    have e2 : zI (drC σ P y) 321 P 0 0 = nI N := h4
    have e3 : ¬ N ≤ y := by omega
    have e4 : y < 12 := by omega
    rw [fX1_start_7]
    simp (disch := omega) only [e1, e2, i_1, n_add, n_le, n_gi, n_cl, e3, e4, ↓reduceIte]
    rw [bq_e dr_C]
    exact ih (y + 1) n σ (by omega) (by omega) h3 h4 h5
theorem st_C {P N M : Nat} {σ : Zs} (hN : N ≤ 12) (hM : M ≤ 8) (h4 : zI σ 321 P 0 0 = nI N) (h5 : zI σ 323 P 0 0 = nI M) : fX1_start P σ = some ((), enC (ckC (drC (sR σ 64 0 0 0 (P, 0)) P N) P M)) := by
  unfold fX1_start
  rw [lt_k]
  have e0 : drC (sR σ 64 0 0 0 (P, 0)) P 0 = sR σ 64 0 0 0 (P, 0) := zs_ext (fun c p s i => by rw [zI_drC, if_neg (by omega), if_neg (by omega), if_neg (by omega), if_neg (by omega)]) (fun _ _ _ _ => rfl) (fun _ _ _ _ => rfl)
  have ff : N < FU := by unfold FU; omega
  have := st_C1 (p1 := P) hN hM N 0 FU (sR σ 64 0 0 0 (P, 0)) (by omega) ff (by rw [zR_sR, if_pos ⟨rfl, rfl, rfl, rfl⟩]) h4 h5
  rw [e0] at this
  exact this
def eaR (z : Zs) (k : Nat) : Zs := (fun c p s i => if (c = 1941 ∨ c = 1943 ∨ c = 1944 ∨ c = 1946 ∨ c = 1958) ∧ p = 0 ∧ s = 0 ∧ i < k then 0 else if c = 1942 ∧ p = 0 ∧ s = 0 ∧ i < k then -1 else zI z c p s i, zJ z, zR z)
theorem zI_eaR (z : Zs) (k c p s i : Nat) : zI (eaR z k) c p s i = if (c = 1941 ∨ c = 1943 ∨ c = 1944 ∨ c = 1946 ∨ c = 1958) ∧ p = 0 ∧ s = 0 ∧ i < k then 0 else if c = 1942 ∧ p = 0 ∧ s = 0 ∧ i < k then -1 else zI z c p s i := rfl
def ebR (z : Zs) (k : Nat) : Zs := (fun c p s i => if c = 1951 ∧ p = 0 ∧ s = 0 ∧ i < k then 0 else zI z c p s i, zJ z, zR z)
theorem zI_ebR (z : Zs) (k c p s i : Nat) : zI (ebR z k) c p s i = if c = 1951 ∧ p = 0 ∧ s = 0 ∧ i < k then 0 else zI z c p s i := rfl
def ecR (z : Zs) : Zs := sI (sI (sI z 928 0 0 0 0) 929 0 0 0 0) 931 0 0 0 0
theorem em_R2 : ∀ (k y n : Nat) (ρ : Zs), y + k = 8 → k < n → fX14_empty_63 n (nI y) (ebR ρ y) = some ((), ecR (ebR ρ 8)) := by
  intro k
  induction k with
  | zero =>
    intro y n ρ h1 h2
    obtain ⟨n, rfl⟩ : ∃ j, n = j + 1 := ⟨n - 1, by omega⟩
    have ey : y = 8 := by omega
    subst ey
    rw [fX14_empty_63]
    simp only [lt_k]
    rw [if_pos (by decide)]
    rfl
  | succ k ih =>
    intro y n ρ h1 h2
    obtain ⟨n, rfl⟩ : ∃ j, n = j + 1 := ⟨n - 1, by omega⟩
    have e3 : ¬ 8 ≤ y := by omega
    have e4 : y < 8 := by omega
    have i8 : (8 : Int32) = nI 8 := rfl
    rw [fX14_empty_63]
    simp (disch := omega) only [i8, i_1, n_add, n_le, n_gi, n_cl, e3, e4, ↓reduceIte, lt_k]
    have e5 : sI (ebR ρ y) 1951 0 0 y 0 = ebR ρ (y + 1) := by
      refine zs_ext (fun c p s i => ?_) (fun _ _ _ _ => rfl) (fun _ _ _ _ => rfl)
      simp only [zI_sI, zI_ebR]
      grind
    rw [e5]
    exact ih (y + 1) n ρ (by omega) (by omega)
theorem em_R1 : ∀ (k y n : Nat) (ρ : Zs), y + k = 12 → k < n → fX14_empty_2 n (nI y) (eaR ρ y) = some ((), ecR (ebR (sI (eaR ρ 12) 923 0 0 0 0) 8)) := by
  intro k
  induction k with
  | zero =>
    intro y n ρ h1 h2
    obtain ⟨n, rfl⟩ : ∃ j, n = j + 1 := ⟨n - 1, by omega⟩
    have ey : y = 12 := by omega
    subst ey
    rw [fX14_empty_2]
    simp only [lt_k]
    rw [if_pos (by decide)]
    have ff : 8 < FU := by unfold FU; omega
    have e0 : ebR (sI (eaR ρ 12) 923 0 0 0 0) 0 = sI (eaR ρ 12) 923 0 0 0 0 := zs_ext (fun c p s i => by rw [zI_ebR, if_neg (by omega)]) (fun _ _ _ _ => rfl) (fun _ _ _ _ => rfl)
    have := em_R2 8 0 FU (sI (eaR ρ 12) 923 0 0 0 0) (by omega) ff
    rw [e0] at this
    exact this
  | succ k ih =>
    intro y n ρ h1 h2
    obtain ⟨n, rfl⟩ : ∃ j, n = j + 1 := ⟨n - 1, by omega⟩
    have e3 : ¬ 12 ≤ y := by omega
    have e4 : y < 12 := by omega
    rw [fX14_empty_2]
    simp (disch := omega) only [i_12, i_1, n_add, n_le, n_gi, n_cl, e3, e4, ↓reduceIte, lt_k]
    have e5 : sI (sI (sI (sI (sI (sI (eaR ρ y) 1941 0 0 y 0) 1942 0 0 y (-nI 1)) 1943 0 0 y 0) 1944 0 0 y 0) 1946 0 0 y 0) 1958 0 0 y 0 = eaR ρ (y + 1) := by
      refine zs_ext (fun c p s i => ?_) (fun _ _ _ _ => rfl) (fun _ _ _ _ => rfl)
      simp only [zI_sI, zI_eaR]
      have : (-nI 1 : Int32) = -1 := rfl
      rw [this]
      grind (splits := 40)
    rw [e5]
    exact ih (y + 1) n ρ (by omega) (by omega)
theorem em_R {ρ : Zs} : fX14_empty ρ = some ((), ecR (ebR (sI (eaR ρ 12) 923 0 0 0 0) 8)) := by
  unfold fX14_empty
  have e0 : eaR ρ 0 = ρ := zs_ext (fun c p s i => by rw [zI_eaR, if_neg (by omega), if_neg (by omega)]) (fun _ _ _ _ => rfl) (fun _ _ _ _ => rfl)
  have ff : 12 < FU := by unfold FU; omega
  have := em_R1 12 0 FU ρ (by omega) ff
  rw [e0] at this
  exact this
/-- the held rows of the class are a permutation of its sixty rows -/
def HPm (σ : Zs) : Prop := ∃ π : Nat → Nat, (∀ j, j < 60 → π j < 60 ∧ zR σ 1089 0 0 j = (4, π j)) ∧ (∀ i j, i < 60 → j < 60 → π i = π j → i = j)
theorem ER.hp {P : Nat} {d : Pd} {σ0 ρ0 : Zs} {τ : Prop} {X : Nat → Nat → Nat} {σ ρ : Zs} (h : ER P d σ0 ρ0 τ X σ ρ) : HPm σ := by
  obtain ⟨_, _, _, π, p1, p2, _⟩ := h.2.2.2.2.2.2.1
  exact ⟨π, p1, p2⟩
theorem EFC.rf {P : Nat} {σ : Zs} : EFC P σ σ := fun _ _ _ _ _ => ⟨rfl, rfl, rfl⟩
theorem EFR.rf {ρ : Zs} : EFR ρ ρ := fun _ _ _ _ _ => ⟨rfl, rfl, rfl⟩
theorem EFC.tr {P : Nat} {σ0 σ1 σ2 : Zs} (h : EFC P σ0 σ1) (k : EFC P σ1 σ2) : EFC P σ0 σ2 := fun c q hc s i => ⟨((k c q hc s i).1).trans (h c q hc s i).1, ((k c q hc s i).2.1).trans (h c q hc s i).2.1, ((k c q hc s i).2.2).trans (h c q hc s i).2.2⟩
theorem EFR.tr {ρ0 ρ1 ρ2 : Zs} (h : EFR ρ0 ρ1) (k : EFR ρ1 ρ2) : EFR ρ0 ρ2 := fun c hc q s i => ⟨((k c hc q s i).1).trans (h c hc q s i).1, ((k c hc q s i).2.1).trans (h c hc q s i).2.1, ((k c hc q s i).2.2).trans (h c hc q s i).2.2⟩
/-- the widths of the tables are those of the streams -/
def w13 (z : Zs) (P k : Nat) : Zs := (fun c p s i => if c = 513 ∧ i = 0 ∧ p = P ∧ s < k then zI z 450 P s 0 else zI z c p s i, zJ z, zR z)
theorem zI_w13 (z : Zs) (P k c p s i : Nat) : zI (w13 z P k) c p s i = if c = 513 ∧ i = 0 ∧ p = P ∧ s < k then zI z 450 P s 0 else zI z c p s i := rfl
def XZ : Nat → Nat → Nat := fun _ _ => 0
def stS (σ : Zs) (P N M : Nat) : Zs := enC (ckC (drC (sR σ 64 0 0 0 (P, 0)) P N) P M)
def stR (ρ : Zs) : Zs := ecR (ebR (sI (eaR ρ 12) 923 0 0 0 0) 8)
theorem wmv0 : wmv 0 = -1 := by decide
section ST2
variable {P g N M : Nat} {d : Pd} {σ ρ : Zs}
theorem st_fC : EFC P (w13 (sR σ 64 0 0 0 (P, 0)) P N) (stS σ P N M) := by
  unfold stS enC
  refine EFC.I (EFC.I (EFC.I (EFC.I (σ := ckC (drC (sR σ 64 0 0 0 (P, 0)) P N) P M) ?_ (by simp [wC])) (by simp [wC])) (by simp [wC])) (by simp [wC])
  intro c q hc s i
  refine ⟨?_, rfl, rfl⟩
  have hn : ¬ (q = P ∧ (c = 512 ∨ c = 461 ∨ c = 1486 ∨ c = 640 ∨ c = 4)) := by
    rintro ⟨rfl, rfl | rfl | rfl | rfl | rfl⟩ <;> simp [wC] at hc
  rw [zI_ckC, if_neg (by omega), zI_drC, if_neg (by omega), zI_w13]
  by_cases e : c = 513 ∧ i = 0 ∧ q = P ∧ s < N
  · rw [if_pos e, if_pos e]
  · rw [if_neg e, if_neg e, if_neg (by omega), if_neg (by omega)]
theorem st_fR : EFR ρ (stR ρ) := by
  unfold stR ecR
  refine EFR.I (EFR.I (EFR.I (ρ := ebR (sI (eaR ρ 12) 923 0 0 0 0) 8) ?_ (by decide)) (by decide)) (by decide)
  intro c hc q s i
  refine ⟨?_, rfl, rfl⟩
  have hn : ¬ (c = 1951 ∨ c = 923 ∨ c = 1941 ∨ c = 1942 ∨ c = 1943 ∨ c = 1944 ∨ c = 1946 ∨ c = 1958) := by
    rintro (rfl | rfl | rfl | rfl | rfl | rfl | rfl | rfl) <;> cases hc
  rw [zI_ebR, if_neg (by omega), zI_sI, if_neg (by omega), zI_eaR, if_neg (by omega), if_neg (by omega)]
theorem st_e {c p s i : Nat} (h : c ≠ 66 ∧ c ≠ 67 ∧ c ≠ 68 ∧ c ≠ 69) : zI (stS σ P N M) c p s i = zI (ckC (drC (sR σ 64 0 0 0 (P, 0)) P N) P M) c p s i := by
  unfold stS enC
  rw [zI_sI, if_neg (by omega), zI_sI, if_neg (by omega), zI_sI, if_neg (by omega), zI_sI, if_neg (by omega)]
theorem st_d {c p s i : Nat} (h : c ≠ 66 ∧ c ≠ 67 ∧ c ≠ 68 ∧ c ≠ 69 ∧ c ≠ 4) : zI (stS σ P N M) c p s i = zI (drC (sR σ 64 0 0 0 (P, 0)) P N) c p s i := by
  rw [st_e (by omega), zI_ckC, if_neg (by omega)]
theorem st_CI {s : Nat} (hs : s < N) : zI (stS σ P N M) 512 P s 0 = nI 0 ∧ zI (stS σ P N M) 513 P s 0 = zI σ 450 P s 0 ∧ zI (stS σ P N M) 461 P s 0 = -1 ∧ zI (stS σ P N M) 1486 P s 0 = nI 0 ∧ zI (stS σ P N M) 1486 P s 1 = nI 0 ∧ zI (stS σ P N M) 640 P s 0 = nI 0 := by
  refine ⟨?_, ?_, ?_, ?_, ?_, ?_⟩
  · rw [st_d (by decide), zI_drC, if_pos ⟨Or.inl rfl, rfl, rfl, hs⟩, i_0]
  · rw [st_d (by decide), zI_drC, if_neg (by omega), if_pos ⟨rfl, rfl, rfl, hs⟩, zI_sR]
  · rw [st_d (by decide), zI_drC, if_neg (by omega), if_neg (by omega), if_pos ⟨rfl, rfl, rfl, hs⟩]
  · rw [st_d (by decide), zI_drC, if_neg (by omega), if_neg (by omega), if_neg (by omega), if_pos ⟨rfl, by decide, rfl, hs⟩, i_0]
  · rw [st_d (by decide), zI_drC, if_neg (by omega), if_neg (by omega), if_neg (by omega), if_pos ⟨rfl, by decide, rfl, hs⟩, i_0]
  · rw [st_d (by decide), zI_drC, if_pos ⟨Or.inr rfl, rfl, rfl, hs⟩, i_0]
theorem st_C0 : zI (stS σ P N M) 66 0 0 0 = nI 0 ∧ zI (stS σ P N M) 67 0 0 0 = nI 0 ∧ zI (stS σ P N M) 68 0 0 0 = nI 0 ∧ zI (stS σ P N M) 69 0 0 0 = nI 0 := by
  unfold stS enC
  refine ⟨?_, ?_, ?_, ?_⟩
  · rw [zI_sI, if_neg (by decide), zI_sI, if_neg (by decide), zI_sI, if_neg (by decide), zI_sI, if_pos (by decide), i_0]
  · rw [zI_sI, if_neg (by decide), zI_sI, if_neg (by decide), zI_sI, if_pos (by decide), i_0]
  · rw [zI_sI, if_neg (by decide), zI_sI, if_pos (by decide), i_0]
  · rw [zI_sI, if_pos (by decide), i_0]
theorem st_RI {s : Nat} (hs : s < 12) : zI (stR ρ) 1941 0 0 s = nI 0 ∧ zI (stR ρ) 1942 0 0 s = -1 ∧ zI (stR ρ) 1943 0 0 s = nI 0 ∧ zI (stR ρ) 1944 0 0 s = nI 0 ∧ zI (stR ρ) 1946 0 0 s = nI 0 ∧ zI (stR ρ) 1958 0 0 s = nI 0 := by
  have e0 : ∀ c, c ≠ 928 ∧ c ≠ 929 ∧ c ≠ 931 ∧ c ≠ 1951 ∧ c ≠ 923 → zI (stR ρ) c 0 0 s = zI (eaR ρ 12) c 0 0 s := by
    intro c hc
    unfold stR ecR
    rw [zI_sI, if_neg (by omega), zI_sI, if_neg (by omega), zI_sI, if_neg (by omega), zI_ebR, if_neg (by omega), zI_sI, if_neg (by omega)]
  have e : ∀ c, c = 1941 ∨ c = 1943 ∨ c = 1944 ∨ c = 1946 ∨ c = 1958 → zI (stR ρ) c 0 0 s = nI 0 := fun c hc => by rw [e0 c (by omega), zI_eaR, if_pos ⟨hc, rfl, rfl, hs⟩, i_0]
  refine ⟨e 1941 (by simp), ?_, e 1943 (by simp), e 1944 (by simp), e 1946 (by simp), e 1958 (by simp)⟩
  rw [e0 1942 (by decide), zI_eaR, if_neg (by omega), if_pos ⟨rfl, rfl, rfl, hs⟩]
theorem st_R0 : zI (stR ρ) 923 0 0 0 = nI 0 ∧ zI (stR ρ) 928 0 0 0 = nI 0 ∧ zI (stR ρ) 929 0 0 0 = nI 0 ∧ zI (stR ρ) 931 0 0 0 = nI 0 := by
  unfold stR ecR
  refine ⟨?_, ?_, ?_, ?_⟩
  · rw [zI_sI, if_neg (by decide), zI_sI, if_neg (by decide), zI_sI, if_neg (by decide), zI_ebR, if_neg (by decide), zI_sI, if_pos (by decide), i_0]
  · rw [zI_sI, if_neg (by decide), zI_sI, if_neg (by decide), zI_sI, if_pos (by decide), i_0]
  · rw [zI_sI, if_neg (by decide), zI_sI, if_pos (by decide), i_0]
  · rw [zI_sI, if_pos (by decide), i_0]
theorem st_EB (hW : WFd d) (hPC : PC P d σ) (hPR : PR g d ρ) (hz3 : zR ρ 898 0 0 0 = (g, 0)) (hP : P < 3) : EB P g d (stS σ P N M) (stR ρ) := by
  refine ⟨hW, hPC.fr (fun c hc s i => ?_), hPR.fr (fun c hc s i => ?_), ?_, ?_, hP⟩
  · have := st_fC (σ := σ) (P := P) (N := N) (M := M) c P (sC0_w hc) s i
    rw [zI_w13, if_neg (by rintro ⟨rfl, _⟩; cases hc)] at this
    exact ⟨this.1, this.2.1⟩
  · have := st_fR (ρ := ρ) c (sR0_w hc) g s i
    exact ⟨this.1, this.2.1⟩
  · have := (st_fC (σ := σ) (P := P) (N := N) (M := M) 64 0 (by simp [wC]) 0 0).2.2
    rw [this]
    show zR (sR σ 64 0 0 0 (P, 0)) 64 0 0 0 = _
    rw [zR_sR, if_pos ⟨rfl, rfl, rfl, rfl⟩]
  · rw [(st_fR (ρ := ρ) 898 (by decide) 0 0 0).2.2]; exact hz3
theorem st_ER (hW : WFd d) (hPC : PC P d σ) (hp : HPm σ) : ER P d (stS σ P (dN d) (dM d)) (stR ρ) False XZ (stS σ P (dN d) (dM d)) (stR ρ) := by
  have hN := hW.1
  have hM := hW.2.1
  refine ⟨False.elim, EFC.rf, EFR.rf, fun s hs => ?_, fun s hs => ?_, fun s hs => ?_, ?_, fun c hc => ?_, ?_, fun s hs => ?_⟩
  · obtain ⟨a1, a2, a3, a4, a5, a6⟩ := st_CI (σ := σ) (P := P) (M := dM d) hs
    obtain ⟨b1, b2, b3, b4, b5, b6⟩ := st_RI (ρ := ρ) (s := s) (by omega)
    have h450 := (hPC.2.2.choose_spec.2.2.1 s hs).2.2.1
    exact ⟨Nat.zero_le _, a1, a2.trans h450, b1, fun i hi => absurd hi (Nat.not_lt_zero _)⟩
  · obtain ⟨a1, a2, a3, a4, a5, a6⟩ := st_CI (σ := σ) (P := P) (M := dM d) hs
    obtain ⟨b1, b2, b3, b4, b5, b6⟩ := st_RI (ρ := ρ) (s := s) (by omega)
    exact ⟨a3.trans wmv0.symm, b2.trans wmv0.symm, Nat.zero_le _, a4, a5, b3, b4⟩
  · obtain ⟨a1, a2, a3, a4, a5, a6⟩ := st_CI (σ := σ) (P := P) (M := dM d) hs
    obtain ⟨b1, b2, b3, b4, b5, b6⟩ := st_RI (ρ := ρ) (s := s) (by omega)
    exact ⟨Nat.zero_le _, fun _ => rfl, a6, b6, fun i hi => absurd hi (Nat.not_lt_zero _)⟩
  · obtain ⟨π, p1, p2⟩ := hp
    exact ⟨Nat.zero_le _, st_C0.1, st_R0.1, π, p1, p2, fun i hi => absurd hi (Nat.not_lt_zero _)⟩
  · rw [st_e (by decide), zI_ckC, if_pos ⟨rfl, rfl, hc, rfl⟩]
    unfold stR ecR
    rw [zI_sI, if_neg (by omega), zI_sI, if_neg (by omega), zI_sI, if_neg (by omega), zI_ebR, if_pos ⟨rfl, rfl, rfl, by omega⟩]
  · exact ⟨st_C0.2.1.trans st_R0.2.1.symm, ⟨0, by decide, st_C0.2.2.1, st_R0.2.2.1⟩, st_C0.2.2.2.trans st_R0.2.2.2.symm⟩
  · obtain ⟨b1, b2, b3, b4, b5, b6⟩ := st_RI (ρ := ρ) (s := s) (by omega)
    exact ⟨b5, Nat.le_refl _, Nat.zero_le _, fun _ => ⟨Nat.zero_le _, fun j hj => absurd hj (Nat.not_lt_zero _), fun j hj => absurd hj (Nat.not_lt_zero _)⟩⟩
theorem r_start (hW : WFd d) (hPC : PC P d σ) (hPR : PR g d ρ) (hz3 : zR ρ 898 0 0 0 = (g, 0)) (hP : P < 3) (hp : HPm σ) :
    ∃ σ' ρ', fX1_start P σ = some ((), σ') ∧ fX14_empty ρ = some ((), ρ') ∧ EB P g d σ' ρ' ∧ ER P d σ' ρ' False XZ σ' ρ' ∧ Good d 0 XZ ∧ Setl d XZ ∧ EFC P (w13 (sR σ 64 0 0 0 (P, 0)) P (dN d)) σ' ∧ EFR ρ ρ' := by
  refine ⟨stS σ P (dN d) (dM d), stR ρ, st_C hW.1 hW.2.1 hPC.1 hPC.2.1, em_R, st_EB hW hPC hPR hz3 hP, st_ER hW hPC hp, ⟨rfl, fun s hs hk => ?_⟩, fun s hs hk => ?_, st_fC, st_fR⟩
  · exact ⟨rfl, rfl, Nat.le_refl _, fun _ => Nat.le_refl _, fun _ => rfl, Nat.zero_le _, Nat.le_refl _, fun _ => Nat.le_refl _, Nat.zero_le _⟩
  · refine ⟨rfl, fun _ => rfl, ?_, fun _ w hw => absurd hw (Nat.not_lt_zero _)⟩
    show 0 = _
    split <;> rfl
end ST2
