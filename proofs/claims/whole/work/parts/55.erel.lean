/-! THE ENGINE: how the class's cells and the law's cells stand to one another. X: the numbers of it: 0 rows, 1 and 2 seen, 3 watermark + 1, 4 windows, 5 held rows, 6 given, 7 and 8 looked at, 9 a bound of the sizes of windows, 11 a bound of given, 12 to 14 the totals that are behind, 15 and 16 by windows: closed, begin -/
def wmv (k : Nat) : Int32 := nI k + -nI 1
def TB (s : Nat) : Nat := 1000000 + 1000 * s
def ETab (P : Nat) (d : Pd) (X : Nat → Nat → Nat) (σ ρ : Zs) : Prop := ∀ s, s < dN d → X 0 s ≤ 200 ∧ zI σ 512 P s 0 = nI (X 0 s) ∧ zI σ 513 P s 0 = nI (dW d s) ∧ zI ρ 1941 0 0 s = nI (X 0 s)
  ∧ ∀ i, i < X 0 s → (∃ t, t ≤ TB s ∧ zI σ 1538 P s i = nI t ∧ zJ ρ 1940 0 0 ((200 * s + i) * 7) = lN t) ∧ ∀ c, c < dW d s → zJ σ 1539 P s (i * 6 + c) = zJ ρ 1940 0 0 ((200 * s + i) * 7 + 1 + c)
def ESeen (P : Nat) (d : Pd) (X : Nat → Nat → Nat) (σ ρ : Zs) : Prop := ∀ s, s < dN d → zI σ 461 P s 0 = wmv (X 3 s) ∧ zI ρ 1942 0 0 s = wmv (X 3 s) ∧ X 3 s ≤ 1000001
  ∧ zI σ 1486 P s 0 = nI (X 1 s) ∧ zI σ 1486 P s 1 = nI (X 2 s) ∧ zI ρ 1943 0 0 s = nI (X 7 s) ∧ zI ρ 1944 0 0 s = nI (X 8 s)
/-- a total of a window, which has z rows -/
def EWt (P : Nat) (d : Pd) (σ ρ : Zs) (s w c z : Nat) : Prop := zJ σ 1669 P s (w * 4 + (c - 2)) = zJ ρ 1962 0 0 ((60 * s + w) * 6 + c) ∧ (dP d s c = 23 → zJ ρ 1962 0 0 ((60 * s + w) * 6 + c) = lN z)
/-- the totals that a row hasn't come to yet: of window X 13 of step X 12 - 1, from column X 14 on -/
def EHo (X : Nat → Nat → Nat) (s w c : Nat) : Prop := X 12 0 = s + 1 ∧ X 13 0 = w ∧ X 14 0 ≤ c
def EW1 (P : Nat) (d : Pd) (X : Nat → Nat → Nat) (σ ρ : Zs) (s w b z cl : Nat) : Prop := b + dS d s ≤ TB s ∧ zJ σ 1665 P s w = zJ ρ 1959 0 0 (60 * s + w) ∧ zI σ 1666 P s w = nI (b + dS d s) ∧ zI ρ 1960 0 0 (60 * s + w) = nI b
  ∧ cl ≤ 1 ∧ zI σ 1667 P s w = nI cl ∧ zI ρ 1961 0 0 (60 * s + w) = nI cl ∧ 1 ≤ z ∧ z ≤ X 9 s ∧ zI σ 1668 P s w = nI z ∧ zI ρ 1963 0 0 (60 * s + w) = nI z
  ∧ ∀ c, 2 ≤ c → c < dW d s → (¬ EHo X s w c → EWt P d σ ρ s w c z) ∧ (EHo X s w c → 1 < z → EWt P d σ ρ s w c (z - 1))
def EWin (P : Nat) (d : Pd) (X : Nat → Nat → Nat) (σ ρ : Zs) : Prop := ∀ s, s < dN d → X 4 s ≤ 60 ∧ (dK d s ≠ 7 → X 4 s = 0) ∧ zI σ 640 P s 0 = nI (X 4 s) ∧ zI ρ 1958 0 0 s = nI (X 4 s) ∧ ∀ w, w < X 4 s → ∃ b z cl, b = X 16 (60 * s + w) ∧ cl = X 15 (60 * s + w) ∧ EW1 P d X σ ρ s w b z cl
def EH1 (d : Pd) (X : Nat → Nat → Nat) (σ ρ : Zs) (j q : Nat) : Prop := ∃ s t w, s < dN d ∧ zI σ 387 4 q 0 = nI s ∧ zI ρ 1948 0 0 j = nI s ∧ t ≤ TB s ∧ zI σ 384 4 q 0 = nI t ∧ zJ ρ 1950 0 0 (7 * j) = lN t ∧ zI σ 385 4 q 0 = nI w ∧ (∀ c, c < w → zJ σ 1410 4 q c = zJ ρ 1950 0 0 (7 * j + 1 + c))
  ∧ ((zI σ 388 4 q 0 = -nI 1 ∧ zI ρ 1949 0 0 j = -nI 1 ∧ dK d s = 7 ∧ w = dW d (dA d s) ∧ t ≤ TB (dA d s) ∧ t / dS d s * dS d s + dS d s + 1 ≤ X 3 s) ∨ (∃ c, c < dM d ∧ zI σ 388 4 q 0 = nI c ∧ zI ρ 1949 0 0 j = nI c ∧ w = dW d s))
def EHeld (d : Pd) (X : Nat → Nat → Nat) (σ ρ : Zs) : Prop := X 5 0 ≤ 60 ∧ zI σ 66 0 0 0 = nI (X 5 0) ∧ zI ρ 923 0 0 0 = nI (X 5 0) ∧ ∃ π : Nat → Nat, (∀ j, j < 60 → π j < 60 ∧ zR σ 1089 0 0 j = (4, π j)) ∧ (∀ i j, i < 60 → j < 60 → π i = π j → i = j) ∧ ∀ j, j < X 5 0 → EH1 d X σ ρ j (π j)
def EChk (P : Nat) (d : Pd) (σ ρ : Zs) : Prop := ∀ c, c < dM d → zI σ 4 P c 0 = zI ρ 1951 0 0 c
def EScal (σ ρ : Zs) : Prop := zI σ 67 0 0 0 = zI ρ 928 0 0 0 ∧ (∃ b, b ≤ 1 ∧ zI σ 68 0 0 0 = nI b ∧ zI ρ 929 0 0 0 = nI b) ∧ zI σ 69 0 0 0 = zI ρ 931 0 0 0
def EGiv (P : Nat) (d : Pd) (X : Nat → Nat → Nat) (σ ρ : Zs) : Prop := ∀ s, s < dN d → zI ρ 1946 0 0 s = nI (X 6 s) ∧ X 6 s ≤ X 11 s ∧ X 11 s ≤ 200 ∧ (dK d s = 6 → X 11 s ≤ X 0 (dA d s)
  ∧ (∀ j, j < X 6 s → ∃ i, i < X 11 s ∧ zI σ 1487 P s i = nI 1 ∧ zJ ρ 1945 0 0 (2 * (200 * s + j)) = zJ ρ 1940 0 0 ((200 * dA d s + i) * 7 + 1 + dY d s) ∧ zJ ρ 1945 0 0 (2 * (200 * s + j) + 1) = zJ ρ 1940 0 0 ((200 * dA d s + i) * 7))
  ∧ ∀ i, i < X 11 s → (zI σ 1487 P s i = nI 0 ∨ zI σ 1487 P s i = nI 1) ∧ (zI σ 1487 P s i = nI 1 → ∃ j, j < X 6 s ∧ zJ ρ 1945 0 0 (2 * (200 * s + j)) = zJ ρ 1940 0 0 ((200 * dA d s + i) * 7 + 1 + dY d s) ∧ zJ ρ 1945 0 0 (2 * (200 * s + j) + 1) = zJ ρ 1940 0 0 ((200 * dA d s + i) * 7)))
/-- what the engine may write: the class's cells, the law's -/
def wC (P c q : Nat) : Bool := decide (q = P) && [512, 1538, 1539, 461, 1486, 1487, 640, 1665, 1666, 1667, 1668, 1669, 4, 1351].contains c || decide (q = 0) && [66, 67, 68, 69, 70, 1089].contains c || decide (q = 0 ∨ q = 1 ∨ q = 2 ∨ q = 4) && [384, 385, 387, 388, 1410].contains c
def wR (c : Nat) : Bool := [1940, 1941, 1942, 1943, 1944, 1945, 1946, 923, 1948, 1949, 1950, 1951, 928, 929, 930, 931, 1956, 1957, 1958, 1959, 1960, 1961, 1962, 1963, 1919].contains c
def EFC (P : Nat) (σ0 σ : Zs) : Prop := ∀ c q, wC P c q = false → ∀ s i, zI σ c q s i = zI σ0 c q s i ∧ zJ σ c q s i = zJ σ0 c q s i ∧ zR σ c q s i = zR σ0 c q s i
def EFR (ρ0 ρ : Zs) : Prop := ∀ c, wR c = false → ∀ q s i, zI ρ c q s i = zI ρ0 c q s i ∧ zJ ρ c q s i = zJ ρ0 c q s i ∧ zR ρ c q s i = zR ρ0 c q s i
def ER (P : Nat) (d : Pd) (σ0 ρ0 : Zs) (τ : Prop) (X : Nat → Nat → Nat) (σ ρ : Zs) : Prop := (τ → zI σ 70 0 0 0 = zI ρ 930 0 0 0) ∧ EFC P σ0 σ ∧ EFR ρ0 ρ ∧ ETab P d X σ ρ ∧ ESeen P d X σ ρ ∧ EWin P d X σ ρ ∧ EHeld d X σ ρ ∧ EChk P d σ ρ ∧ EScal σ ρ ∧ EGiv P d X σ ρ
/-- what stands around -/
def EB (P g : Nat) (d : Pd) (σ0 ρ0 : Zs) : Prop := WFd d ∧ PC P d σ0 ∧ PR g d ρ0 ∧ zR σ0 64 0 0 0 = (P, 0) ∧ zR ρ0 898 0 0 0 = (g, 0) ∧ P < 3
/-- a row of the class's written anew -/
def wRow (z : Zs) (p s : Nat) (t w : Int32) (f : Nat → Int64) : Zs := (fun c' p' s' i' => if c' = 384 ∧ p' = p ∧ s' = s ∧ i' = 0 then t else if c' = 385 ∧ p' = p ∧ s' = s ∧ i' = 0 then w else zI z c' p' s' i', fun c' p' s' i' => if c' = 1410 ∧ p' = p ∧ s' = s then f i' else zJ z c' p' s' i', zR z)
theorem zI_wRow (z : Zs) (p s : Nat) (t w : Int32) (f : Nat → Int64) (c' p' s' i' : Nat) : zI (wRow z p s t w f) c' p' s' i' = if c' = 384 ∧ p' = p ∧ s' = s ∧ i' = 0 then t else if c' = 385 ∧ p' = p ∧ s' = s ∧ i' = 0 then w else zI z c' p' s' i' := rfl
theorem zJ_wRow (z : Zs) (p s : Nat) (t w : Int32) (f : Nat → Int64) (c' p' s' i' : Nat) : zJ (wRow z p s t w f) c' p' s' i' = if c' = 1410 ∧ p' = p ∧ s' = s then f i' else zJ z c' p' s' i' := rfl
theorem zR_wRow (z : Zs) (p s : Nat) (t w : Int32) (f : Nat → Int64) : zR (wRow z p s t w f) = zR z := rfl
theorem wRow_w (z : Zs) (p s : Nat) (t w t2 w2 : Int32) (f f2 : Nat → Int64) : wRow (wRow z p s t w f) p s t2 w2 f2 = wRow z p s t2 w2 f2 := by
  refine zs_ext (fun c' p' s' i' => ?_) (fun c' p' s' i' => ?_) (fun _ _ _ _ => rfl)
  · simp only [zI_wRow]
    split
    · rfl
    · split <;> rfl
  · simp only [zJ_wRow]
    split <;> rfl
section FR
variable {P : Nat} {σ0 σ ρ0 ρ : Zs} {c q s i : Nat}
theorem EFC.I (h : EFC P σ0 σ) (hw : wC P c q = true) {v : Int32} : EFC P σ0 (sI σ c q s i v) := by
  intro c' q' hc s' i'
  obtain ⟨h1, h2, h3⟩ := h c' q' hc s' i'
  refine ⟨?_, h2, h3⟩
  rw [zI_sI, if_neg, h1]
  rintro ⟨rfl, rfl, _⟩
  rw [hw] at hc
  cases hc
theorem EFC.J (h : EFC P σ0 σ) (hw : wC P c q = true) {v : Int64} : EFC P σ0 (sJ σ c q s i v) := by
  intro c' q' hc s' i'
  obtain ⟨h1, h2, h3⟩ := h c' q' hc s' i'
  refine ⟨h1, ?_, h3⟩
  rw [zJ_sJ, if_neg, h2]
  rintro ⟨rfl, rfl, _⟩
  rw [hw] at hc
  cases hc
theorem EFC.R (h : EFC P σ0 σ) (hw : wC P c q = true) {v : Nat × Nat} : EFC P σ0 (sR σ c q s i v) := by
  intro c' q' hc s' i'
  obtain ⟨h1, h2, h3⟩ := h c' q' hc s' i'
  refine ⟨h1, h2, ?_⟩
  rw [zR_sR, if_neg, h3]
  rintro ⟨rfl, rfl, _⟩
  rw [hw] at hc
  cases hc
theorem EFC.K (h : EFC P σ0 σ) (hw : wC P c q = true) {f : Nat → Int64} : EFC P σ0 (jJ σ c q s f) := by
  intro c' q' hc s' i'
  obtain ⟨h1, h2, h3⟩ := h c' q' hc s' i'
  refine ⟨h1, ?_, h3⟩
  rw [zJ_jJ, if_neg, h2]
  rintro ⟨rfl, rfl, _⟩
  rw [hw] at hc
  cases hc
theorem EFC.W (h : EFC P σ0 σ) (hw : q = 0 ∨ q = 1 ∨ q = 2 ∨ q = 4) {t w : Int32} {f : Nat → Int64} : EFC P σ0 (wRow σ q s t w f) := by
  intro c' q' hc s' i'
  obtain ⟨h1, h2, h3⟩ := h c' q' hc s' i'
  refine ⟨?_, ?_, h3⟩
  · rw [zI_wRow, if_neg, if_neg, h1]
    · rintro ⟨rfl, rfl, _⟩
      simp [wC, hw] at hc
    · rintro ⟨rfl, rfl, _⟩
      simp [wC, hw] at hc
  · rw [zJ_wRow, if_neg, h2]
    rintro ⟨rfl, rfl, _⟩
    simp [wC, hw] at hc
theorem EFR.I (h : EFR ρ0 ρ) (hw : wR c = true) {v : Int32} : EFR ρ0 (sI ρ c q s i v) := by
  intro c' hc q' s' i'
  obtain ⟨h1, h2, h3⟩ := h c' hc q' s' i'
  refine ⟨?_, h2, h3⟩
  rw [zI_sI, if_neg, h1]
  rintro ⟨rfl, _⟩
  rw [hw] at hc
  cases hc
theorem EFR.J (h : EFR ρ0 ρ) (hw : wR c = true) {v : Int64} : EFR ρ0 (sJ ρ c q s i v) := by
  intro c' hc q' s' i'
  obtain ⟨h1, h2, h3⟩ := h c' hc q' s' i'
  refine ⟨h1, ?_, h3⟩
  rw [zJ_sJ, if_neg, h2]
  rintro ⟨rfl, _⟩
  rw [hw] at hc
  cases hc
theorem EFR.K (h : EFR ρ0 ρ) (hw : wR c = true) {f : Nat → Int64} : EFR ρ0 (jJ ρ c q s f) := by
  intro c' hc q' s' i'
  obtain ⟨h1, h2, h3⟩ := h c' hc q' s' i'
  refine ⟨h1, ?_, h3⟩
  rw [zJ_jJ, if_neg, h2]
  rintro ⟨rfl, _⟩
  rw [hw] at hc
  cases hc
end FR
section ERS
variable {P : Nat} {d : Pd} {σ0 ρ0 : Zs} {τ : Prop} {X : Nat → Nat → Nat} {σ ρ : Zs}
/-- scratch cells don't matter -/
theorem ER.r0 (h : ER P d σ0 ρ0 τ X σ ρ) {t w : Int32} {f : Nat → Int64} : ER P d σ0 ρ0 τ X (wRow σ 0 0 t w f) ρ := ⟨h.1, h.2.1.W (Or.inl rfl), h.2.2⟩
theorem ER.r1 (h : ER P d σ0 ρ0 τ X σ ρ) {t w : Int32} {f : Nat → Int64} : ER P d σ0 ρ0 τ X (wRow σ 1 0 t w f) ρ := ⟨h.1, h.2.1.W (Or.inr (Or.inl rfl)), h.2.2⟩
theorem ER.r2 (h : ER P d σ0 ρ0 τ X σ ρ) {t w : Int32} {f : Nat → Int64} : ER P d σ0 ρ0 τ X (wRow σ 2 0 t w f) ρ := ⟨h.1, h.2.1.W (Or.inr (Or.inr (Or.inl rfl))), h.2.2⟩
theorem ER.st (h : ER P d σ0 ρ0 τ X σ ρ) {f : Nat → Int64} : ER P d σ0 ρ0 τ X (jJ σ 1351 P 0 f) ρ := ⟨h.1, h.2.1.K (by simp [wC]), h.2.2⟩
theorem ER.k56 (h : ER P d σ0 ρ0 τ X σ ρ) {f : Nat → Int64} : ER P d σ0 ρ0 τ X σ (jJ ρ 1956 0 0 f) := ⟨h.1, h.2.1, h.2.2.1.K (by decide), h.2.2.2⟩
theorem ER.k57 (h : ER P d σ0 ρ0 τ X σ ρ) {f : Nat → Int64} : ER P d σ0 ρ0 τ X σ (jJ ρ 1957 0 0 f) := ⟨h.1, h.2.1, h.2.2.1.K (by decide), h.2.2.2⟩
theorem ER.k19 (h : ER P d σ0 ρ0 τ X σ ρ) {f : Nat → Int64} : ER P d σ0 ρ0 τ X σ (jJ ρ 1919 0 0 f) := ⟨h.1, h.2.1, h.2.2.1.K (by decide), h.2.2.2⟩
end ERS
