/-! A STREAM TAKES A ROW; a row is held -/
def upx (X : Nat → Nat → Nat) (k i v : Nat) : Nat → Nat → Nat := fun k' i' => if k' = k ∧ i' = i then v else X k' i'
/-- the row of the class and the row on its way of the law -/
def RW (p s t W : Nat) (σ ρ : Zs) : Prop := zI σ 384 p s 0 = nI t ∧ zI σ 385 p s 0 = nI W ∧ zJ ρ 1957 0 0 0 = lN t ∧ ∀ i, i < W → zJ σ 1410 p s i = zJ ρ 1957 0 0 (1 + i)
theorem RW.rr {p s t W : Nat} {σ ρ : Zs} (h : RW p s t W σ ρ) (ht : t < 2147483648) : RowR p s σ 1957 0 0 0 W ρ := ⟨⟨t, ht, h.1, h.2.2.1⟩, fun i hi => h.2.2.2 i hi⟩
/-- what an offer to stream s may change of the numbers -/
def XO (s : Nat) (X X' : Nat → Nat → Nat) : Prop := (∀ k i, ¬ (k = 0 ∧ i = s) → k ≠ 5 → X' k i = X k i) ∧ X 0 s ≤ X' 0 s
theorem XO.rf {s : Nat} {X : Nat → Nat → Nat} : XO s X X := ⟨fun _ _ _ _ => rfl, Nat.le_refl _⟩
theorem XO.tr {s : Nat} {X Y Z : Nat → Nat → Nat} (h : XO s X Y) (k : XO s Y Z) : XO s X Z := ⟨fun a i h1 h2 => (k.1 a i h1 h2).trans (h.1 a i h1 h2), Nat.le_trans h.2 k.2⟩
theorem XO.m {s a : Nat} {X Y : Nat → Nat → Nat} (h : XO s X Y) : X 0 a ≤ Y 0 a := by
  by_cases e : a = s
  · subst e; exact h.2
  · exact Nat.le_of_eq (h.1 0 a (fun q => e q.2) (by decide)).symm
theorem XO.e {s k i : Nat} {X Y : Nat → Nat → Nat} (h : XO s X Y) (h0 : k ≠ 0) (h5 : k ≠ 5) : Y k i = X k i := h.1 k i (fun q => h0 q.1) h5
theorem XO.e0 {s i : Nat} {X Y : Nat → Nat → Nat} (h : XO s X Y) (hi : i ≠ s) : Y 0 i = X 0 i := h.1 0 i (fun q => hi q.2) (by decide)
theorem dat_old {f g : Nat → Int64} {s r a i c : Nat} (hr : r < 200) (hi : i < 200) (hc : c < 7) (hne : ¬ (a = s ∧ i = r)) : va_cpy f g 0 ((200 * s + r) * 7) 7 ((200 * a + i) * 7 + c) = g ((200 * a + i) * 7 + c) := pk_cpy_out (by omega)
theorem dat_new {f g : Nat → Int64} {s r c : Nat} (hc : c < 7) : va_cpy f g 0 ((200 * s + r) * 7) 7 ((200 * s + r) * 7 + c) = f c := by
  rw [pk_cpy_in (by omega) (by omega)]
  congr 1
  omega
section ST
variable {P : Nat} {d : Pd} {σ0 ρ0 : Zs} {τ : Prop} {X : Nat → Nat → Nat} {σ ρ : Zs} {s p2 s2 t : Nat}
theorem ER.store (h : ER P d σ0 ρ0 τ X σ ρ) (hs : s < dN d) (hr : X 0 s < 200) (hw : RW p2 s2 t (dW d s) σ ρ) (ht : t ≤ TB s) (h6 : ∀ s, s < dN d → dW d s ≤ 6) (hA : ∀ s, s < dN d → dK d s = 6 → dY d s < 6) (x y : Int32) (hxy : τ → x = y) :
    ER P d σ0 ρ0 τ (upx X 0 s (X 0 s + 1)) (sI (addT σ P s (X 0 s) p2 s2) 70 0 0 0 x) (sI (sI (jJ ρ 1940 0 0 (va_cpy (zJ ρ 1957 0 0) (zJ ρ 1940 0 0) 0 ((200 * s + X 0 s) * 7) 7)) 1941 0 0 s (nI (X 0 s + 1))) 930 0 0 0 y) := by
  obtain ⟨hT, hFC, hFR, hTab, hSeen, hWin, hHeld, hChk, hSc, hGiv⟩ := h
  refine ⟨hxy, ?_, ?_, ?_, hSeen, hWin, hHeld, hChk, hSc, ?_⟩
  · unfold addT
    exact EFC.I (EFC.I (EFC.K (EFC.I hFC (by simp [wC])) (by simp [wC])) (by simp [wC])) (by simp [wC])
  · exact EFR.I (EFR.I (EFR.K hFR (by decide)) (by decide)) (by decide)
  · intro a ha
    obtain ⟨a1, a2, a3, a4, a5⟩ := hTab a ha
    have ha6 := h6 a ha
    by_cases e : a = s
    · subst e
      have eu : upx X 0 a (X 0 a + 1) 0 a = X 0 a + 1 := if_pos ⟨rfl, rfl⟩
      rw [eu]
      refine ⟨by omega, ?_, a3, ?_, fun i hi => ?_⟩
      · show (if 512 = 512 ∧ P = P ∧ a = a ∧ 0 = 0 then _ else _) = _
        rw [if_pos ⟨rfl, rfl, rfl, rfl⟩]
      · show (if 1941 = 1941 ∧ 0 = 0 ∧ 0 = 0 ∧ a = a then _ else _) = _
        rw [if_pos ⟨rfl, rfl, rfl, rfl⟩]
      · by_cases e2 : i = X 0 a
        · subst e2
          refine ⟨⟨t, ht, ?_, ?_⟩, fun c hc => ?_⟩
          · show (if 1538 = 1538 ∧ P = P ∧ a = a ∧ X 0 a = X 0 a then _ else _) = _
            rw [if_pos ⟨rfl, rfl, rfl, rfl⟩]
            exact hw.1
          · show va_cpy _ _ _ _ _ ((200 * a + X 0 a) * 7 + 0) = _
            rw [dat_new (by decide)]
            exact hw.2.2.1
          · show (if 1539 = 1539 ∧ P = P ∧ a = a then (if X 0 a * 6 ≤ X 0 a * 6 + c ∧ X 0 a * 6 + c < X 0 a * 6 + 6 then _ else _) else _) = va_cpy _ _ _ _ _ ((200 * a + X 0 a) * 7 + 1 + c)
            rw [if_pos ⟨rfl, rfl, rfl⟩, if_pos (by omega), Nat.add_assoc, dat_new (by omega), Nat.add_sub_cancel_left]
            exact hw.2.2.2 c hc
        · obtain ⟨⟨t1, t2, t3, t4⟩, t5⟩ := a5 i (by omega)
          refine ⟨⟨t1, t2, ?_, ?_⟩, fun c hc => ?_⟩
          · show (if 1538 = 1538 ∧ P = P ∧ a = a ∧ i = X 0 a then _ else _) = _
            rw [if_neg (fun q => e2 q.2.2.2)]
            exact t3
          · show va_cpy _ _ _ _ _ ((200 * a + i) * 7 + 0) = _
            rw [dat_old hr (by omega) (by decide) (fun q => e2 q.2)]
            exact t4
          · show (if 1539 = 1539 ∧ P = P ∧ a = a then (if X 0 a * 6 ≤ i * 6 + c ∧ i * 6 + c < X 0 a * 6 + 6 then _ else _) else _) = va_cpy _ _ _ _ _ ((200 * a + i) * 7 + 1 + c)
            rw [if_pos ⟨rfl, rfl, rfl⟩, if_neg (by omega), Nat.add_assoc, dat_old hr (by omega) (by omega) (fun q => e2 q.2), ← Nat.add_assoc]
            exact t5 c hc
    · have eu : upx X 0 s (X 0 s + 1) 0 a = X 0 a := if_neg (fun q => e q.2)
      rw [eu]
      refine ⟨a1, ?_, a3, ?_, fun i hi => ?_⟩
      · show (if 512 = 512 ∧ P = P ∧ a = s ∧ 0 = 0 then _ else _) = _
        rw [if_neg (fun q => e q.2.2.1)]
        exact a2
      · show (if 1941 = 1941 ∧ 0 = 0 ∧ 0 = 0 ∧ a = s then _ else _) = _
        rw [if_neg (fun q => e q.2.2.2)]
        exact a4
      · obtain ⟨⟨t1, t2, t3, t4⟩, t5⟩ := a5 i hi
        refine ⟨⟨t1, t2, ?_, ?_⟩, fun c hc => ?_⟩
        · show (if 1538 = 1538 ∧ P = P ∧ a = s ∧ i = X 0 s then _ else _) = _
          rw [if_neg (fun q => e q.2.2.1)]
          exact t3
        · show va_cpy _ _ _ _ _ ((200 * a + i) * 7 + 0) = _
          rw [dat_old hr (by omega) (by decide) (fun q => e q.1)]
          exact t4
        · show (if 1539 = 1539 ∧ P = P ∧ a = s then _ else _) = va_cpy _ _ _ _ _ ((200 * a + i) * 7 + 1 + c)
          rw [if_neg (fun q => e q.2.2), Nat.add_assoc, dat_old hr (by omega) (by omega) (fun q => e q.1), ← Nat.add_assoc]
          exact t5 c hc
  · intro a ha
    obtain ⟨g1, g2, g3, g4⟩ := hGiv a ha
    refine ⟨g1, g2, g3, fun hk => ?_⟩
    obtain ⟨g5, g6, g7⟩ := g4 hk
    have hy := hA a ha hk
    have old : ∀ i c, i < X 11 a → c < 7 → va_cpy (zJ ρ 1957 0 0) (zJ ρ 1940 0 0) 0 ((200 * s + X 0 s) * 7) 7 ((200 * dA d a + i) * 7 + c) = zJ ρ 1940 0 0 ((200 * dA d a + i) * 7 + c) := fun i c hi hc => dat_old hr (by omega) hc (fun q => by rw [q.1] at g5; omega)
    refine ⟨?_, fun j hj => ?_, fun i hi => ⟨(g7 i hi).1, fun hq => ?_⟩⟩
    · show X 11 a ≤ (if 0 = 0 ∧ dA d a = s then _ else _)
      split
      · rename_i q; rw [q.2] at g5; omega
      · exact g5
    · obtain ⟨i, i1, i2, i3, i4⟩ := g6 j hj
      refine ⟨i, i1, i2, ?_, ?_⟩
      · show zJ ρ 1945 0 0 _ = va_cpy _ _ _ _ _ ((200 * dA d a + i) * 7 + 1 + dY d a)
        rw [Nat.add_assoc, old i _ i1 (by omega), ← Nat.add_assoc]
        exact i3
      · show zJ ρ 1945 0 0 _ = va_cpy _ _ _ _ _ ((200 * dA d a + i) * 7 + 0)
        rw [old i _ i1 (by omega)]
        exact i4
    · obtain ⟨j, j1, j2, j3⟩ := (g7 i hi).2 hq
      refine ⟨j, j1, ?_, ?_⟩
      · show zJ ρ 1945 0 0 _ = va_cpy _ _ _ _ _ ((200 * dA d a + i) * 7 + 1 + dY d a)
        rw [Nat.add_assoc, old i _ hi (by omega), ← Nat.add_assoc]
        exact j2
      · show zJ ρ 1945 0 0 _ = va_cpy _ _ _ _ _ ((200 * dA d a + i) * 7 + 0)
        rw [old i _ hi (by omega)]
        exact j3
theorem ER.lost (h : ER P d σ0 ρ0 τ X σ ρ) : ER P d σ0 ρ0 τ X (sI σ 67 0 0 0 (zI σ 67 0 0 0 + 1)) (sI ρ 928 0 0 0 (zI ρ 928 0 0 0 + 1)) := by
  obtain ⟨hT, hFC, hFR, hTab, hSeen, hWin, hHeld, hChk, hSc, hGiv⟩ := h
  refine ⟨hT, hFC.I (by simp [wC]), hFR.I (by decide), hTab, hSeen, hWin, hHeld, hChk, ⟨?_, hSc.2⟩, hGiv⟩
  show zI σ 67 0 0 0 + 1 = zI ρ 928 0 0 0 + 1
  rw [hSc.1]
/-- the class takes a row, and so does the law -/
theorem r_accept {g : Nat} (hB : EB P g d σ0 ρ0) (h : ER P d σ0 ρ0 τ X σ ρ) (hs : s < dN d) (hw : RW p2 s2 t (dW d s) σ ρ) (ht : t ≤ TB s) : Wp2 (fX1_accept (nI s) p2 s2 σ) (fX14_store (nI s) ρ) (fun _ σ' _ ρ' => ∃ X', ER P d σ0 ρ0 τ X' σ' ρ' ∧ XO s X X') := by
  obtain ⟨⟨w1, w2, w3, w4⟩, hPC, hPR, hz, hz2, hP3⟩ := hB
  have h6 : ∀ s, s < dN d → dW d s ≤ 6 := fun s hs => (w3 s hs).2.2.1
  have hA : ∀ s, s < dN d → dK d s = 6 → dY d s < 6 := by
    intro s hs hk
    obtain ⟨q1, q2⟩ := (w3 s hs).2.2.2.2.2.2.2.2.2.2.2.2.1 hk
    have := h6 s hs
    omega
  have hz : zR σ 64 0 0 0 = (P, 0) := by
    rw [(h.2.1 64 0 (by simp [wC]) 0 0).2.2]; exact hz
  obtain ⟨a1, a2, a3, a4, a5⟩ := h.2.2.2.1 s hs
  have b1 : s < 12 := by omega
  unfold fX1_accept fX14_store
  simp (disch := omega) only [i_12, i_200, n_gi, n_cl, n_eq, b1, hz, a4, ↓reduceIte]
  by_cases e : X 0 s = 200
  · rw [e] at a2
    rw [bq_e (tab_full a2)]
    simp only [e, ↓reduceIte, lt_k]
    exact ⟨X, h.lost, XO.rf⟩
  · rw [bq_e (tab_add (by omega) a2)]
    have b2 : ¬ (1 : Int32) = 0 := by decide
    have b3 : (200 * s + X 0 s) * 7 < 2147483648 := by omega
    have b4 : (200 * s + X 0 s) * 7 + 7 ≤ 16800 := by omega
    have b5 : 0 + 7 ≤ 7 := by omega
    simp only [e, b2, ↓reduceIte, lt_k, fX14_rowAt, bq_s]
    simp (disch := omega) only [i_0, i_1, i_7, i_12, i_200, n_mul, n_add, n_gcp, n_gi, n_cl, b1, b4, b5, and_self, ↓reduceIte, lt_k, sC_j, zI_jJ, a4]
    refine ⟨upx X 0 s (X 0 s + 1), h.store hs (by omega) hw ht h6 hA _ _ (fun q => ?_), fun k i hk _ => if_neg hk, ?_⟩
    · show zI σ 70 0 0 0 + nI 1 = zI ρ 930 0 0 0 + nI 1
      rw [h.1 q]
    · show _ ≤ (if 0 = 0 ∧ s = s then _ else _)
      rw [if_pos ⟨rfl, rfl⟩]; omega
end ST
