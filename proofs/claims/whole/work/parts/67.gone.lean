/-! WINDOWS ARE CLOSED: those that are gone; all of it -/
def moveC (σ : Zs) (P s y k : Nat) : Zs := jJ (sI (sI (sI (sJ σ 1665 P s k (zJ σ 1665 P s y)) 1666 P s k (zI σ 1666 P s y)) 1667 P s k (zI σ 1667 P s y)) 1668 P s k (zI σ 1668 P s y)) 1669 P s (fun j => if k * 4 ≤ j ∧ j < k * 4 + 4 then zJ σ 1669 P s (y * 4 + (j - k * 4)) else zJ σ 1669 P s j)
def moveR (ρ : Zs) (a b : Nat) : Zs := jJ (sI (sI (sI (sJ ρ 1959 0 0 b (zJ ρ 1959 0 0 a)) 1960 0 0 b (zI ρ 1960 0 0 a)) 1961 0 0 b (zI ρ 1961 0 0 a)) 1963 0 0 b (zI ρ 1963 0 0 a)) 1962 0 0 (va_cpy (zJ ρ 1962 0 0) (zJ ρ 1962 0 0) (6 * a) (6 * b) 6)
theorem mv_l {P s y k : Nat} (hy : y < 60) (hk : k ≤ y) : ∀ (r i n : Nat) (σ : Zs), i + r = 4 → r < n → fX10_move_50 P s (nI y) (nI k) n (nI i) σ = some ((), jJ σ 1669 P s (fun j => if k * 4 + i ≤ j ∧ j < k * 4 + 4 then zJ σ 1669 P s (y * 4 + (j - k * 4)) else zJ σ 1669 P s j)) := by
  intro r
  induction r with
  | zero =>
    intro i n σ h1 h2
    obtain ⟨n, rfl⟩ : ∃ j, n = j + 1 := ⟨n - 1, by omega⟩
    have e : i = 4 := by omega
    subst e
    rw [fX10_move_50]
    have b : (4 : Nat) ≤ 4 := Nat.le_refl _
    simp (disch := omega) only [i_4, n_le, b, ↓reduceIte]
    rw [show (fun j => if k * 4 + 4 ≤ j ∧ j < k * 4 + 4 then zJ σ 1669 P s (y * 4 + (j - k * 4)) else zJ σ 1669 P s j) = zJ σ 1669 P s from funext fun j => if_neg (by omega), jJ_self]
  | succ r ih =>
    intro i n σ h1 h2
    obtain ⟨n, rfl⟩ : ∃ j, n = j + 1 := ⟨n - 1, by omega⟩
    rw [fX10_move_50]
    have b1 : ¬ 4 ≤ i := by omega
    have b2 : y * 4 + i < 240 := by omega
    have b3 : k * 4 + i < 240 := by omega
    simp (disch := omega) only [i_4, i_1, n_le, n_gi, n_cl, n_mul, n_add, b1, b2, b3, ↓reduceIte, lt_k]
    rw [ih (i + 1) n _ (by omega) (by omega), jJ_sJ]
    refine congrArg (fun f => some ((), jJ σ 1669 P s f)) (funext fun j => ?_)
    simp only [zJ_sJ]
    by_cases c : k * 4 + (i + 1) ≤ j ∧ j < k * 4 + 4
    · rw [if_pos c, if_pos (show k * 4 + i ≤ j ∧ j < k * 4 + 4 by omega), if_neg (by omega)]
    · rw [if_neg c]
      by_cases c2 : j = k * 4 + i
      · subst c2
        rw [if_pos ⟨trivial, trivial, trivial, rfl⟩, if_pos (by omega), Nat.add_sub_cancel_left]
      · rw [if_neg (fun q => c2 q.2.2.2), if_neg (by omega)]
theorem mv_C {P s y k cl : Nat} {σ : Zs} (hy : y < 60) (hk : k ≤ y) (hc : zI σ 1667 P s y = nI cl) (hcl : cl ≤ 1) : fX10_move P s (nI y) (nI k) σ = some ((), moveC σ P s y k) := by
  unfold fX10_move
  have b1 : k < 60 := by omega
  have b2 : y < 60 := hy
  have c1 : cl = 0 ∨ cl = 1 := by omega
  have e1 : ∀ x, zI (sJ σ 1665 P s k x) 1666 P s y = zI σ 1666 P s y := fun _ => rfl
  have e2 : ∀ x v, zI (sI (sJ σ 1665 P s k x) 1666 P s k v) 1667 P s y = nI cl := fun _ _ => hc
  have e3 : ∀ x v u, zI (sI (sI (sJ σ 1665 P s k x) 1666 P s k v) 1667 P s k u) 1668 P s y = zI σ 1668 P s y := fun _ _ _ => rfl
  have c2 : nI cl = 0 ∨ nI cl = 1 := by
    rcases c1 with rfl | rfl
    · exact Or.inl rfl
    · exact Or.inr rfl
  simp (disch := omega) only [n_gi, n_cl, b1, b2, e1, e2, e3, c2, ↓reduceIte, lt_k]
  rw [show (0 : Int32) = nI 0 from rfl, mv_l hy hk 4 0 FU _ (by omega) (by unfold FU; omega)]
  unfold moveC
  rw [hc]
  rfl
theorem mv_R {s y k cl : Nat} {ρ : Zs} (hs : s < 12) (hy : y < 60) (hk : k < 60) (hc : zI ρ 1961 0 0 (60 * s + y) = nI cl) (hcl : cl ≤ 1) : fX14_copyWindow (nI s) (nI y) (nI k) ρ = some ((), moveR ρ (60 * s + y) (60 * s + k)) := by
  unfold fX14_copyWindow
  have b1 : 60 * s + k < 720 := by omega
  have b2 : 60 * s + y < 720 := by omega
  have c1 : cl = 0 ∨ cl = 1 := by omega
  have e1 : ∀ x, zI (sJ ρ 1959 0 0 (60 * s + k) x) 1960 0 0 (60 * s + y) = zI ρ 1960 0 0 (60 * s + y) := fun _ => rfl
  have e2 : ∀ x v, zI (sI (sJ ρ 1959 0 0 (60 * s + k) x) 1960 0 0 (60 * s + k) v) 1961 0 0 (60 * s + y) = nI cl := fun _ _ => hc
  have e3 : ∀ x v u, zI (sI (sI (sJ ρ 1959 0 0 (60 * s + k) x) 1960 0 0 (60 * s + k) v) 1961 0 0 (60 * s + k) u) 1963 0 0 (60 * s + y) = zI ρ 1963 0 0 (60 * s + y) := fun _ _ _ => rfl
  have c2 : nI cl = 0 ∨ nI cl = 1 := by
    rcases c1 with rfl | rfl
    · exact Or.inl rfl
    · exact Or.inr rfl
  have b3 : 6 * (60 * s + y) + 6 ≤ 4320 := by omega
  have b4 : 6 * (60 * s + k) + 6 ≤ 4320 := by omega
  simp (disch := omega) only [i_6, i_60, n_mul, n_add, n_gi, n_cl, n_gcp, b1, b2, b3, b4, e1, e2, e3, c2, and_self, ↓reduceIte, lt_k, sC_j]
  unfold moveR
  rw [hc]
  rfl
section GO
variable {P g : Nat} {d : Pd} {σ0 ρ0 : Zs} {τ : Prop} {X : Nat → Nat → Nat} {σ ρ : Zs} {s : Nat}
def upm (X : Nat → Nat → Nat) (s y k : Nat) : Nat → Nat → Nat := upx (upx X 15 (60 * s + k) (X 15 (60 * s + y))) 16 (60 * s + k) (X 16 (60 * s + y))
theorem ER.move {y k : Nat} (h : ER P d σ0 ρ0 τ X σ ρ) (hN : dN d ≤ 12) (h6 : ∀ s, s < dN d → dW d s ≤ 6) (h12 : X 12 0 = 0) (hs : s < dN d) (hy : y < X 4 s) (hk : k ≤ y) : ER P d σ0 ρ0 τ (upm X s y k) (moveC σ P s y k) (moveR ρ (60 * s + y) (60 * s + k)) := by
  obtain ⟨hT, hFC, hFR, hTab, hSeen, hWin, hHeld, hChk, hSc, hGiv⟩ := h
  refine ⟨hT, ?_, ?_, hTab, hSeen, fun a ha => ?_, hHeld, hChk, hSc, hGiv⟩
  · unfold moveC
    exact EFC.K (EFC.I (EFC.I (EFC.I (EFC.J hFC (by simp [wC])) (by simp [wC])) (by simp [wC])) (by simp [wC])) (by simp [wC])
  · unfold moveR
    exact EFR.K (EFR.I (EFR.I (EFR.I (EFR.J hFR (by decide)) (by decide)) (by decide)) (by decide)) (by decide)
  obtain ⟨a1, a2, a3, a4, a5⟩ := hWin a ha
  have s60 := (hWin s hs).1
  have a6 := h6 a ha
  refine ⟨a1, a2, a3, a4, fun w hw => ?_⟩
  have hw4 : w < X 4 a := hw
  by_cases e : a = s ∧ w = k
  · obtain ⟨rfl, rfl⟩ := e
    obtain ⟨b, z, cl, hb0, hc0, b1, b2, b3, b4, b5, b6, b7, b8, b9, b10, b11, b12⟩ := a5 y hy
    refine ⟨b, z, cl, hb0.trans (if_pos ⟨rfl, rfl⟩).symm, ?_, b1, ?_, ?_, ?_, b5, ?_, ?_, b8, b9, ?_, ?_, fun c c1 c2 => ⟨fun _ => ?_, fun q => absurd q (EHo.no (X := upm X a y w) h12)⟩⟩
    · exact hc0.trans (if_pos ⟨rfl, rfl⟩).symm
    · show (if 1665 = 1665 ∧ P = P ∧ a = a ∧ w = w then _ else _) = (if 1959 = 1959 ∧ 0 = 0 ∧ 0 = 0 ∧ 60 * a + w = 60 * a + w then _ else _)
      rw [if_pos ⟨rfl, rfl, rfl, rfl⟩, if_pos ⟨rfl, rfl, rfl, rfl⟩]; exact b2
    · show (if 1666 = 1666 ∧ P = P ∧ a = a ∧ w = w then _ else _) = _
      rw [if_pos ⟨rfl, rfl, rfl, rfl⟩]; exact b3
    · show (if 1960 = 1960 ∧ 0 = 0 ∧ 0 = 0 ∧ 60 * a + w = 60 * a + w then _ else _) = _
      rw [if_pos ⟨rfl, rfl, rfl, rfl⟩]; exact b4
    · show (if 1667 = 1667 ∧ P = P ∧ a = a ∧ w = w then _ else _) = _
      rw [if_pos ⟨rfl, rfl, rfl, rfl⟩]; exact b6
    · show (if 1961 = 1961 ∧ 0 = 0 ∧ 0 = 0 ∧ 60 * a + w = 60 * a + w then _ else _) = _
      rw [if_pos ⟨rfl, rfl, rfl, rfl⟩]; exact b7
    · show (if 1668 = 1668 ∧ P = P ∧ a = a ∧ w = w then _ else _) = _
      rw [if_pos ⟨rfl, rfl, rfl, rfl⟩]; exact b10
    · show (if 1963 = 1963 ∧ 0 = 0 ∧ 0 = 0 ∧ 60 * a + w = 60 * a + w then _ else _) = _
      rw [if_pos ⟨rfl, rfl, rfl, rfl⟩]; exact b11
    · have g1 := (b12 c c1 c2).1 (EHo.no h12)
      have e1 : zJ (moveC σ P a y w) 1669 P a (w * 4 + (c - 2)) = zJ σ 1669 P a (y * 4 + (c - 2)) := by
        unfold moveC
        rw [zJ_jJ, if_pos ⟨rfl, rfl, rfl⟩, if_pos (by omega), Nat.add_sub_cancel_left]
      have e2 : zJ (moveR ρ (60 * a + y) (60 * a + w)) 1962 0 0 ((60 * a + w) * 6 + c) = zJ ρ 1962 0 0 ((60 * a + y) * 6 + c) := by
        unfold moveR
        rw [zJ_jJ, if_pos ⟨rfl, rfl, rfl⟩, pk_cpy_in (by omega) (by omega)]
        congr 1
        omega
      exact ⟨by rw [e1, e2]; exact g1.1, fun q => by rw [e2]; exact g1.2 q⟩
  · obtain ⟨b, z, cl, hb0, hc0, b1, b2, b3, b4, b5, b6, b7, b8, b9, b10, b11, b12⟩ := a5 w hw
    have e3 : ¬ (60 * a + w = 60 * s + k) := fun q => e (by omega)
    refine ⟨b, z, cl, hb0.trans (if_neg (fun q => e3 q.2)).symm, hc0.trans (if_neg (fun q => e3 q.2)).symm, b1, ?_, ?_, ?_, b5, ?_, ?_, b8, b9, ?_, ?_, fun c c1 c2 => ⟨fun _ => ?_, fun q => absurd q (EHo.no (X := upm X s y k) h12)⟩⟩
    · show (if 1665 = 1665 ∧ P = P ∧ a = s ∧ w = k then _ else _) = (if 1959 = 1959 ∧ 0 = 0 ∧ 0 = 0 ∧ 60 * a + w = 60 * s + k then _ else _)
      rw [if_neg (fun q => e ⟨q.2.2.1, q.2.2.2⟩), if_neg (fun q => e3 q.2.2.2)]; exact b2
    · show (if 1666 = 1666 ∧ P = P ∧ a = s ∧ w = k then _ else _) = _
      rw [if_neg (fun q => e ⟨q.2.2.1, q.2.2.2⟩)]; exact b3
    · show (if 1960 = 1960 ∧ 0 = 0 ∧ 0 = 0 ∧ 60 * a + w = 60 * s + k then _ else _) = _
      rw [if_neg (fun q => e3 q.2.2.2)]; exact b4
    · show (if 1667 = 1667 ∧ P = P ∧ a = s ∧ w = k then _ else _) = _
      rw [if_neg (fun q => e ⟨q.2.2.1, q.2.2.2⟩)]; exact b6
    · show (if 1961 = 1961 ∧ 0 = 0 ∧ 0 = 0 ∧ 60 * a + w = 60 * s + k then _ else _) = _
      rw [if_neg (fun q => e3 q.2.2.2)]; exact b7
    · show (if 1668 = 1668 ∧ P = P ∧ a = s ∧ w = k then _ else _) = _
      rw [if_neg (fun q => e ⟨q.2.2.1, q.2.2.2⟩)]; exact b10
    · show (if 1963 = 1963 ∧ 0 = 0 ∧ 0 = 0 ∧ 60 * a + w = 60 * s + k then _ else _) = _
      rw [if_neg (fun q => e3 q.2.2.2)]; exact b11
    · have g1 := (b12 c c1 c2).1 (EHo.no h12)
      have e1 : zJ (moveC σ P s y k) 1669 P a (w * 4 + (c - 2)) = zJ σ 1669 P a (w * 4 + (c - 2)) := by
        unfold moveC
        rw [zJ_jJ]
        split
        · rename_i q
          have q2 := q.2.2
          subst q2
          rw [if_neg (fun q => e ⟨rfl, by omega⟩)]
        · rfl
      have e2 : zJ (moveR ρ (60 * s + y) (60 * s + k)) 1962 0 0 ((60 * a + w) * 6 + c) = zJ ρ 1962 0 0 ((60 * a + w) * 6 + c) := by
        unfold moveR
        rw [zJ_jJ, if_pos ⟨rfl, rfl, rfl⟩, pk_cpy_out (by omega)]
      exact ⟨by rw [e1, e2]; exact g1.1, fun q => by rw [e2]; exact g1.2 q⟩
theorem ER.trunc {k : Nat} (h : ER P d σ0 ρ0 τ X σ ρ) (hs : s < dN d) (hk : k ≤ X 4 s) : ER P d σ0 ρ0 τ (upx X 4 s k) (sI σ 640 P s 0 (nI k)) (sI ρ 1958 0 0 s (nI k)) := by
  obtain ⟨hT, hFC, hFR, hTab, hSeen, hWin, hHeld, hChk, hSc, hGiv⟩ := h
  refine ⟨hT, hFC.I (by simp [wC]), hFR.I (by decide), hTab, hSeen, fun a ha => ?_, hHeld, hChk, hSc, hGiv⟩
  obtain ⟨a1, a2, a3, a4, a5⟩ := hWin a ha
  by_cases e : a = s
  · subst e
    have e4 : upx X 4 a k 4 a = k := if_pos ⟨rfl, rfl⟩
    rw [e4]
    refine ⟨by omega, fun q => by have := a2 q; omega, ?_, ?_, fun w hw => a5 w (by omega)⟩
    · rw [zI_sI, if_pos ⟨rfl, rfl, rfl, rfl⟩]
    · rw [zI_sI, if_pos ⟨rfl, rfl, rfl, rfl⟩]
  · have e4 : upx X 4 s k 4 a = X 4 a := if_neg (fun q => e q.2)
    rw [e4]
    refine ⟨a1, a2, ?_, ?_, a5⟩
    · rw [zI_sI, if_neg (fun q => e q.2.2.1)]; exact a3
    · rw [zI_sI, if_neg (fun q => e q.2.2.2)]; exact a4
end GO
