/-! A HELD ROW IS TAKEN OUT -/
def rK (z : Zs) (c p s : Nat) (f : Nat → Nat × Nat) : Zs := (zI z, zJ z, fun c' p' s' i' => if c' = c ∧ p' = p ∧ s' = s then f i' else zR z c' p' s' i')
def iK (z : Zs) (c p s : Nat) (f : Nat → Int32) : Zs := (fun c' p' s' i' => if c' = c ∧ p' = p ∧ s' = s then f i' else zI z c' p' s' i', zJ z, zR z)
theorem zR_rK (z : Zs) (c p s : Nat) (f : Nat → Nat × Nat) (c' p' s' i' : Nat) : zR (rK z c p s f) c' p' s' i' = if c' = c ∧ p' = p ∧ s' = s then f i' else zR z c' p' s' i' := rfl
theorem zI_iK (z : Zs) (c p s : Nat) (f : Nat → Int32) (c' p' s' i' : Nat) : zI (iK z c p s f) c' p' s' i' = if c' = c ∧ p' = p ∧ s' = s then f i' else zI z c' p' s' i' := rfl
theorem EFC.rK {P : Nat} {σ0 σ : Zs} {c q s : Nat} {f : Nat → Nat × Nat} (h : EFC P σ0 σ) (hw : wC P c q = true) : EFC P σ0 (rK σ c q s f) := by
  intro c' q' hc s' i'
  obtain ⟨h1, h2, h3⟩ := h c' q' hc s' i'
  refine ⟨h1, h2, ?_⟩
  rw [zR_rK, if_neg, h3]
  rintro ⟨rfl, rfl, _⟩
  rw [hw] at hc
  cases hc
theorem EFR.iK {ρ0 ρ : Zs} {c q s : Nat} {f : Nat → Int32} (h : EFR ρ0 ρ) (hw : wR c = true) : EFR ρ0 (iK ρ c q s f) := by
  intro c' hc q' s' i'
  obtain ⟨h1, h2, h3⟩ := h c' hc q' s' i'
  refine ⟨?_, h2, h3⟩
  rw [zI_iK, if_neg, h1]
  rintro ⟨rfl, _⟩
  rw [hw] at hc
  cases hc
def nu (a H : Nat) (j : Nat) : Nat := if a ≤ j ∧ j < H - 1 then j + 1 else if j = H - 1 then a else j
theorem nu_lt {a H j : Nat} (hH : H ≤ 60) (ha : a < H) (hj : j < 60) : nu a H j < 60 := by
  unfold nu
  split
  · omega
  · split <;> omega
theorem nu_inj {a H i j : Nat} (ha : a < H) (q : nu a H i = nu a H j) : i = j := by
  unfold nu at q
  by_cases i1 : a ≤ i ∧ i < H - 1
  · rw [if_pos i1] at q
    by_cases j1 : a ≤ j ∧ j < H - 1
    · rw [if_pos j1] at q; omega
    · rw [if_neg j1] at q
      split at q <;> omega
  · rw [if_neg i1] at q
    by_cases j1 : a ≤ j ∧ j < H - 1
    · rw [if_pos j1] at q
      split at q <;> omega
    · rw [if_neg j1] at q
      split at q <;> split at q <;> omega
theorem take_C_l {x1 : Int32} {H yp ys : Nat} (hH : H ≤ 60) : ∀ (k y n : Nat) (σ : Zs), y + k + 1 = H → k < n → zI σ 66 0 0 0 = nI H → fX1_removeHeld_23 x1 n yp ys (nI y) σ = some (1, sI (rK σ 1089 0 0 (fun j => if y ≤ j ∧ j < H - 1 then zR σ 1089 0 0 (j + 1) else if j = H - 1 then (yp, ys) else zR σ 1089 0 0 j)) 66 0 0 0 (nI (H - 1))) := by
  intro k
  induction k with
  | zero =>
    intro y n σ h1 h2 h3
    obtain ⟨n, rfl⟩ : ∃ j, n = j + 1 := ⟨n - 1, by omega⟩
    have b1 : H - 1 ≤ y := by omega
    have b2 : H - 1 < 60 := by omega
    rw [fX1_removeHeld_23]
    have e66 : ∀ v, zI (sR σ 1089 0 0 (H - 1) v) 66 0 0 0 = nI H := fun _ => h3
    simp (disch := omega) only [h3, i_1, n_sub, n_le, n_gi, n_cl, b1, b2, ↓reduceIte, lt_k, e66]
    refine congrArg (fun z => some (nI 1, z)) (zs_ext (fun _ _ _ _ => rfl) (fun _ _ _ _ => rfl) (fun c p s i => ?_))
    show zR (sR σ 1089 0 0 (H - 1) (yp, ys)) c p s i = zR (rK σ 1089 0 0 _) c p s i
    rw [zR_rK, zR_sR]
    grind
  | succ k ih =>
    intro y n σ h1 h2 h3
    obtain ⟨n, rfl⟩ : ∃ j, n = j + 1 := ⟨n - 1, by omega⟩
    have b1 : ¬ H - 1 ≤ y := by omega
    have b2 : y + 1 < 60 := by omega
    have b3 : y < 60 := by omega
    rw [fX1_removeHeld_23]
    simp (disch := omega) only [h3, i_1, n_sub, n_add, n_le, n_gi, n_cl, b1, b2, b3, ↓reduceIte, lt_k]
    have e66 : ∀ v, zI (sR σ 1089 0 0 y v) 66 0 0 0 = nI H := fun _ => h3
    rw [ih (y + 1) n _ (by omega) (by omega) (e66 _)]
    refine congrArg (fun z => some ((1 : Int32), sI z 66 0 0 0 (nI (H - 1)))) (zs_ext (fun _ _ _ _ => rfl) (fun _ _ _ _ => rfl) (fun c p s i => ?_))
    rw [zR_rK, zR_rK]
    simp only [zR_sR]
    grind
theorem take_C {a H q : Nat} {σ : Zs} (hH : H ≤ 60) (ha : a < H) (h3 : zI σ 66 0 0 0 = nI H) (hq : zR σ 1089 0 0 a = (4, q)) : fX1_removeHeld (nI a) σ = some (1, sI (rK σ 1089 0 0 (fun j => zR σ 1089 0 0 (nu a H j))) 66 0 0 0 (nI (H - 1))) := by
  have b2 : a < 60 := by omega
  have ff : H - 1 - a < FU := by unfold FU; omega
  unfold fX1_removeHeld
  simp (disch := omega) only [i_0, h3, n_lt, n_nz, n_gi, n_cl, ha, b2, hq, ↓reduceIte]
  rw [take_C_l hH (H - 1 - a) a FU σ (by omega) ff h3]
  refine congrArg (fun f => some ((1 : Int32), sI (rK σ 1089 0 0 f) 66 0 0 0 (nI (H - 1)))) (funext fun j => ?_)
  unfold nu
  split
  · rfl
  · split
    · rw [hq]
    · rfl
theorem take_Cn {a H : Nat} {σ : Zs} (hH : H ≤ 60) (ha : ¬ a < H) (ha2 : a < 2147483648) (h3 : zI σ 66 0 0 0 = nI H) : fX1_removeHeld (nI a) σ = some (0, σ) := by
  unfold fX1_removeHeld
  simp (disch := omega) only [i_0, h3, n_lt, n_nz, ha, ↓reduceIte]
theorem take_R_l {a H : Nat} (hH : H < 60) (ha : a ≤ H) : ∀ (k y n : Nat) (ρ : Zs), y + k = H → k < n → zI ρ 923 0 0 0 = nI H → fX14_takeOut_12 (nI a) n (nI y) ρ = some ((), jJ (iK (iK ρ 1948 0 0 (fun j => if y ≤ j ∧ j < H then zI ρ 1948 0 0 (j + 1) else zI ρ 1948 0 0 j)) 1949 0 0 (fun j => if y ≤ j ∧ j < H then zI ρ 1949 0 0 (j + 1) else zI ρ 1949 0 0 j)) 1950 0 0 (va_cpy (zJ ρ 1950 0 0) (zJ ρ 1950 0 0) (7 * (a + 1)) (7 * a) (7 * (H - a)))) := by
  intro k
  induction k with
  | zero =>
    intro y n ρ h1 h2 h3
    obtain ⟨n, rfl⟩ : ∃ j, n = j + 1 := ⟨n - 1, by omega⟩
    have b1 : H ≤ y := by omega
    have b2 : 7 * (a + 1) + 7 * (H - a) ≤ 420 := by omega
    have b3 : 7 * a + 7 * (H - a) ≤ 420 := by omega
    rw [fX14_takeOut_12]
    simp (disch := omega) only [h3, i_1, i_7, n_sub, n_mul, n_add, n_le, n_gcp, n_cl, b1, b2, b3, and_self, ↓reduceIte, lt_k, sC_j]
    refine congrArg (fun z => some ((), z)) (zs_ext (fun c p s i => ?_) (fun _ _ _ _ => rfl) (fun _ _ _ _ => rfl))
    simp only [zI_jJ, zI_iK]
    grind
  | succ k ih =>
    intro y n ρ h1 h2 h3
    obtain ⟨n, rfl⟩ : ∃ j, n = j + 1 := ⟨n - 1, by omega⟩
    have b1 : ¬ H ≤ y := by omega
    have b2 : y + 1 < 60 := by omega
    have b3 : y < 60 := by omega
    rw [fX14_takeOut_12]
    have e1 : ∀ v, zI (sI ρ 1948 0 0 y v) 1949 0 0 (y + 1) = zI ρ 1949 0 0 (y + 1) := fun _ => rfl
    simp (disch := omega) only [h3, i_1, n_sub, n_add, n_le, n_gi, n_cl, b1, b2, b3, ↓reduceIte, lt_k, e1]
    rw [ih (y + 1) n (sI (sI ρ 1948 0 0 y (zI ρ 1948 0 0 (y + 1))) 1949 0 0 y (zI ρ 1949 0 0 (y + 1))) (by omega) (by omega) (by exact h3)]
    refine congrArg (fun z => some ((), z)) (zs_ext (fun c p s i => ?_) (fun _ _ _ _ => rfl) (fun _ _ _ _ => rfl))
    simp only [zI_jJ, zI_iK, zI_sI]
    grind
def takeR (ρ : Zs) (a H : Nat) : Zs := jJ (iK (iK (sI ρ 923 0 0 0 (nI (H - 1))) 1948 0 0 (fun j => if a ≤ j ∧ j < H - 1 then zI ρ 1948 0 0 (j + 1) else zI ρ 1948 0 0 j)) 1949 0 0 (fun j => if a ≤ j ∧ j < H - 1 then zI ρ 1949 0 0 (j + 1) else zI ρ 1949 0 0 j)) 1950 0 0 (va_cpy (zJ ρ 1950 0 0) (zJ ρ 1950 0 0) (7 * (a + 1)) (7 * a) (7 * (H - 1 - a)))
theorem take_R {a H : Nat} {ρ : Zs} (hH : H ≤ 60) (ha : a < H) (h3 : zI ρ 923 0 0 0 = nI H) : fX14_takeOut (nI a) ρ = some ((), takeR ρ a H) := by
  have ff : H - 1 - a < FU := by unfold FU; omega
  unfold fX14_takeOut
  simp (disch := omega) only [h3, i_1, n_sub, lt_k]
  exact take_R_l (by omega) (by omega) (H - 1 - a) a FU _ (by omega) ff rfl
section TO
variable {P g : Nat} {d : Pd} {σ0 ρ0 : Zs} {τ : Prop} {X : Nat → Nat → Nat} {σ ρ : Zs} {a : Nat}
theorem ER.take (hW : WFd d) (h : ER P d σ0 ρ0 τ X σ ρ) (ha : a < X 5 0) : ER P d σ0 ρ0 τ (upx X 5 0 (X 5 0 - 1)) (sI (rK σ 1089 0 0 (fun j => zR σ 1089 0 0 (nu a (X 5 0) j))) 66 0 0 0 (nI (X 5 0 - 1))) (takeR ρ a (X 5 0)) := by
  obtain ⟨hT, hFC, hFR, hTab, hSeen, hWin, ⟨hh1, hh2, hh3, π, p1, p2, p3⟩, hChk, hSc, hGiv⟩ := h
  refine ⟨hT, ?_, ?_, hTab, hSeen, hWin, ?_, hChk, hSc, hGiv⟩
  · exact (hFC.rK (by simp [wC])).I (by simp [wC])
  · exact (((hFR.I (by decide)).iK (by decide)).iK (by decide)).K (by decide)
  · have e5 : upx X 5 0 (X 5 0 - 1) 5 0 = X 5 0 - 1 := upx_p
    have e3 : upx X 5 0 (X 5 0 - 1) 3 = X 3 := rfl
    unfold EHeld
    rw [e5]
    refine ⟨by omega, ?_, ?_, fun j => π (nu a (X 5 0) j), fun j hj => ?_, fun i j hi hj q => ?_, fun j hj => ?_⟩
    · rw [zI_sI, if_pos ⟨rfl, rfl, rfl, rfl⟩]
    · show zI (takeR ρ a (X 5 0)) 923 0 0 0 = _
      rfl
    · have hn : nu a (X 5 0) j < 60 := nu_lt hh1 ha hj
      refine ⟨(p1 _ hn).1, ?_⟩
      show zR (rK σ 1089 0 0 _) 1089 0 0 j = _
      rw [zR_rK, if_pos ⟨rfl, rfl, rfl⟩]
      exact (p1 _ hn).2
    · exact nu_inj ha (p2 _ _ (nu_lt hh1 ha hi) (nu_lt hh1 ha hj) q)
    · have hn : nu a (X 5 0) j = if a ≤ j then j + 1 else j := by
        unfold nu
        by_cases q : a ≤ j
        · rw [if_pos ⟨q, hj⟩, if_pos q]
        · rw [if_neg (fun z => q z.1), if_neg q, if_neg (by omega)]
      have hlt : nu a (X 5 0) j < X 5 0 := by rw [hn]; split <;> omega
      obtain ⟨s1, t1, w1, k1, k2, k3, k4, k5, k6, k7, k8, k9⟩ := p3 _ hlt
      have eI : ∀ c, c = 1948 ∨ c = 1949 → zI (takeR ρ a (X 5 0)) c 0 0 j = zI ρ c 0 0 (nu a (X 5 0) j) := by
        intro c hc
        unfold takeR
        rw [zI_jJ, zI_iK, zI_iK, hn]
        rcases hc with rfl | rfl
        · rw [if_neg (by omega), if_pos ⟨rfl, rfl, rfl⟩]
          by_cases q : a ≤ j
          · rw [if_pos ⟨q, hj⟩, if_pos q]
          · rw [if_neg (fun z => q z.1), if_neg q]
        · rw [if_pos ⟨rfl, rfl, rfl⟩]
          by_cases q : a ≤ j
          · rw [if_pos ⟨q, hj⟩, if_pos q]
          · rw [if_neg (fun z => q z.1), if_neg q]
      have eJ : ∀ c, c < 7 → zJ (takeR ρ a (X 5 0)) 1950 0 0 (7 * j + c) = zJ ρ 1950 0 0 (7 * nu a (X 5 0) j + c) := by
        intro c hc
        unfold takeR
        rw [zJ_jJ, if_pos ⟨rfl, rfl, rfl⟩, hn]
        by_cases q : a ≤ j
        · rw [if_pos q, pk_cpy_in (by omega) (by omega)]
          congr 1; omega
        · rw [if_neg q, pk_cpy_out (by omega)]
      have hw6 : w1 ≤ 6 := by
        rcases k9 with ⟨_, _, x3, x4, _⟩ | ⟨_, _, _, _, x4⟩
        · rw [x4]; exact hW.w6 (Nat.lt_trans (hW.a k1 (by rw [x3]; decide)) k1)
        · rw [x4]; exact hW.w6 k1
      refine ⟨s1, t1, w1, k1, k2, (eI 1948 (Or.inl rfl)).trans k3, k4, k5, (eJ 0 (by omega)).trans k6, k7, fun c hc => ?_, ?_⟩
      · have := eJ (1 + c) (by omega)
        rw [← Nat.add_assoc, ← Nat.add_assoc] at this
        rw [this]; exact k8 c hc
      · rw [eI 1949 (Or.inr rfl), e3]; exact k9
end TO
