/-! WINDOWS: a row goes into its window -/
/-- the numbers while a row goes into window w of step s, at column y -/
def upw (X : Nat → Nat → Nat) (s w y k4 : Nat) : Nat → Nat → Nat := upx (upx (upx (upx (upx X 4 s k4) 9 s (X 9 s + 1)) 12 0 (s + 1)) 13 0 w) 14 0 y
theorem EHo.no {X : Nat → Nat → Nat} (h : X 12 0 = 0) {s w c : Nat} : ¬ EHo X s w c := fun q => by have q := q.1; omega
section WI
variable {P g : Nat} {d : Pd} {σ0 ρ0 : Zs} {τ : Prop} {X : Nat → Nat → Nat} {σ ρ : Zs} {s w y : Nat}
theorem upw4 {k4 : Nat} (a : Nat) : upw X s w y k4 4 a = if a = s then k4 else X 4 a := by
  show (if 4 = 4 ∧ a = s then k4 else X 4 a) = _
  by_cases e : a = s
  · rw [if_pos ⟨rfl, e⟩, if_pos e]
  · rw [if_neg (fun q => e q.2), if_neg e]
theorem upw9 {k4 : Nat} (a : Nat) : upw X s w y k4 9 a = if a = s then X 9 s + 1 else X 9 a := by
  show (if 9 = 9 ∧ a = s then X 9 s + 1 else X 9 a) = _
  by_cases e : a = s
  · rw [if_pos ⟨rfl, e⟩, if_pos e]
  · rw [if_neg (fun q => e q.2), if_neg e]
theorem upwH {k4 : Nat} {a b c : Nat} : EHo (upw X s w y k4) a b c ↔ a = s ∧ b = w ∧ y ≤ c := by
  show (s + 1 = a + 1 ∧ w = b ∧ y ≤ c) ↔ _
  omega
theorem upwH2 {k4 i u j v : Nat} {a b c : Nat} : EHo (upx (upx (upw X s w y k4) 15 i u) 16 j v) a b c ↔ a = s ∧ b = w ∧ y ≤ c := by
  show (s + 1 = a + 1 ∧ w = b ∧ y ≤ c) ↔ _
  omega
/-- a window that is there gets a row -/
theorem ER.count (h : ER P d σ0 ρ0 τ X σ ρ) (hN : dN d ≤ 12) (h12 : X 12 0 = 0) (hs : s < dN d) (hw : w < X 4 s) : ER P d σ0 ρ0 τ (upw X s w 2 (X 4 s)) (sI σ 1668 P s w (zI σ 1668 P s w + 1)) (sI ρ 1963 0 0 (60 * s + w) (zI ρ 1963 0 0 (60 * s + w) + 1)) := by
  obtain ⟨hT, hFC, hFR, hTab, hSeen, hWin, hHeld, hChk, hSc, hGiv⟩ := h
  refine ⟨hT, hFC.I (by simp [wC]), hFR.I (by decide), hTab, hSeen, fun a ha => ?_, hHeld, hChk, hSc, hGiv⟩
  obtain ⟨a1, a2, a3, a4, a5⟩ := hWin a ha
  have e4 : upw X s w 2 (X 4 s) 4 a = X 4 a := by rw [upw4]; split <;> simp_all
  rw [e4]
  refine ⟨a1, a2, a3, a4, fun v hv => ?_⟩
  obtain ⟨b, z, cl, hb0, hc0, b1, b2, b3, b4, b5, b6, b7, b8, b9, b10, b11, b12⟩ := a5 v hv
  by_cases e : a = s ∧ v = w
  · obtain ⟨rfl, rfl⟩ := e
    refine ⟨b, z + 1, cl, hb0, hc0, b1, b2, b3, b4, b5, b6, b7, by omega, ?_, ?_, ?_, fun c c1 c2 => ⟨fun q => absurd (upwH.mpr ⟨rfl, rfl, c1⟩) q, fun _ _ => ?_⟩⟩
    · rw [upw9, if_pos rfl]; omega
    · rw [zI_sI, if_pos ⟨rfl, rfl, rfl, rfl⟩, b10, nI_succ]
    · rw [zI_sI, if_pos ⟨rfl, rfl, rfl, rfl⟩, b11, nI_succ]
    · exact (b12 c c1 c2).1 (EHo.no h12)
  · refine ⟨b, z, cl, hb0, hc0, b1, b2, b3, b4, b5, b6, b7, b8, ?_, ?_, ?_, fun c c1 c2 => ⟨fun _ => (b12 c c1 c2).1 (EHo.no h12), fun q => absurd (upwH.mp q) (fun q => e ⟨q.1, q.2.1⟩)⟩⟩
    · rw [upw9]; split
      · rename_i q; subst q; omega
      · exact b9
    · rw [zI_sI, if_neg (fun q => e ⟨q.2.2.1, q.2.2.2⟩), b10]
    · rw [zI_sI, if_neg, b11]
      rintro ⟨_, _, _, q⟩
      have q4 := (hWin s hs).1
      exact e (by omega)
def newC (σ : Zs) (P s k : Nat) (key : Int64) (e cl : Int32) : Zs := sI (sI (sI (sI (sJ σ 1665 P s k key) 1666 P s k e) 1667 P s k cl) 1668 P s k 1) 640 P s 0 (nI (k + 1))
def newR (ρ : Zs) (s k : Nat) (key : Int64) (b cl : Int32) : Zs := sI (sI (sI (sJ (sI ρ 1958 0 0 s (nI (k + 1))) 1959 0 0 (60 * s + k) key) 1960 0 0 (60 * s + k) b) 1961 0 0 (60 * s + k) cl) 1963 0 0 (60 * s + k) 1
/-- a window begins to be there, with a row -/
theorem ER.newW (h : ER P d σ0 ρ0 τ X σ ρ) (hN : dN d ≤ 12) (h12 : X 12 0 = 0) (hs : s < dN d) (hk7 : dK d s = 7) (h60 : X 4 s < 60) {key : Int64} {b cl : Nat} (hb : b + dS d s ≤ TB s) (hcl : cl ≤ 1) : ER P d σ0 ρ0 τ (upx (upx (upw X s (X 4 s) 2 (X 4 s + 1)) 15 (60 * s + X 4 s) cl) 16 (60 * s + X 4 s) b) (newC σ P s (X 4 s) key (nI (b + dS d s)) (nI cl)) (newR ρ s (X 4 s) key (nI b) (nI cl)) := by
  obtain ⟨hT, hFC, hFR, hTab, hSeen, hWin, hHeld, hChk, hSc, hGiv⟩ := h
  refine ⟨hT, ?_, ?_, hTab, hSeen, fun a ha => ?_, hHeld, hChk, hSc, hGiv⟩
  · unfold newC
    exact EFC.I (EFC.I (EFC.I (EFC.I (EFC.J hFC (by simp [wC])) (by simp [wC])) (by simp [wC])) (by simp [wC])) (by simp [wC])
  · unfold newR
    exact EFR.I (EFR.I (EFR.I (EFR.J (EFR.I hFR (by decide)) (by decide)) (by decide)) (by decide)) (by decide)
  obtain ⟨a1, a2, a3, a4, a5⟩ := hWin a ha
  by_cases e : a = s
  · subst e
    have e4 : (upx (upx (upw X a (X 4 a) 2 (X 4 a + 1)) 15 (60 * a + X 4 a) cl) 16 (60 * a + X 4 a) b) 4 a = X 4 a + 1 := by show upw X a (X 4 a) 2 (X 4 a + 1) 4 a = _; rw [upw4, if_pos rfl]
    rw [e4]
    refine ⟨by omega, fun q => absurd hk7 q, ?_, ?_, fun v hv => ?_⟩
    · unfold newC; rw [zI_sI, if_pos ⟨rfl, rfl, rfl, rfl⟩]
    · show (if 1958 = 1958 ∧ 0 = 0 ∧ 0 = 0 ∧ a = a then _ else _) = _
      rw [if_pos ⟨rfl, rfl, rfl, rfl⟩]
    · by_cases e2 : v = X 4 a
      · subst e2
        refine ⟨b, 1, cl, (if_pos ⟨rfl, rfl⟩).symm, (if_pos ⟨rfl, rfl⟩).symm, hb, ?_, ?_, ?_, hcl, ?_, ?_, Nat.le_refl _, ?_, ?_, ?_, fun c c1 c2 => ⟨fun q => absurd (upwH2.mpr ⟨rfl, rfl, c1⟩) q, fun _ q => absurd q (by omega)⟩⟩
        · show (if 1665 = 1665 ∧ P = P ∧ a = a ∧ X 4 a = X 4 a then _ else _) = (if 1959 = 1959 ∧ 0 = 0 ∧ 0 = 0 ∧ 60 * a + X 4 a = 60 * a + X 4 a then _ else _)
          rw [if_pos ⟨rfl, rfl, rfl, rfl⟩, if_pos ⟨rfl, rfl, rfl, rfl⟩]
        · show (if 1666 = 1666 ∧ P = P ∧ a = a ∧ X 4 a = X 4 a then _ else _) = _
          rw [if_pos ⟨rfl, rfl, rfl, rfl⟩]
        · show (if 1960 = 1960 ∧ 0 = 0 ∧ 0 = 0 ∧ 60 * a + X 4 a = 60 * a + X 4 a then _ else _) = _
          rw [if_pos ⟨rfl, rfl, rfl, rfl⟩]
        · show (if 1667 = 1667 ∧ P = P ∧ a = a ∧ X 4 a = X 4 a then _ else _) = _
          rw [if_pos ⟨rfl, rfl, rfl, rfl⟩]
        · show (if 1961 = 1961 ∧ 0 = 0 ∧ 0 = 0 ∧ 60 * a + X 4 a = 60 * a + X 4 a then _ else _) = _
          rw [if_pos ⟨rfl, rfl, rfl, rfl⟩]
        · show _ ≤ upw X a (X 4 a) 2 (X 4 a + 1) 9 a; rw [upw9, if_pos rfl]; omega
        · show (if 1668 = 1668 ∧ P = P ∧ a = a ∧ X 4 a = X 4 a then _ else _) = _
          rw [if_pos ⟨rfl, rfl, rfl, rfl⟩]; rfl
        · show (if 1963 = 1963 ∧ 0 = 0 ∧ 0 = 0 ∧ 60 * a + X 4 a = 60 * a + X 4 a then _ else _) = _
          rw [if_pos ⟨rfl, rfl, rfl, rfl⟩]; rfl
      · obtain ⟨b, z, cl, hb0, hc0, b1, b2, b3, b4, b5, b6, b7, b8, b9, b10, b11, b12⟩ := a5 v (by omega)
        have e3 : ¬ (60 * a + v = 60 * a + X 4 a) := by omega
        refine ⟨b, z, cl, hb0.trans (if_neg (fun q => e3 q.2)).symm, hc0.trans (if_neg (fun q => e3 q.2)).symm, b1, ?_, ?_, ?_, b5, ?_, ?_, b8, ?_, ?_, ?_, fun c c1 c2 => ⟨fun _ => (b12 c c1 c2).1 (EHo.no h12), fun q => absurd (upwH2.mp q) (fun q => e2 q.2.1)⟩⟩
        · show (if 1665 = 1665 ∧ P = P ∧ a = a ∧ v = X 4 a then _ else _) = (if 1959 = 1959 ∧ 0 = 0 ∧ 0 = 0 ∧ 60 * a + v = 60 * a + X 4 a then _ else _)
          rw [if_neg (fun q => e2 q.2.2.2), if_neg (fun q => e3 q.2.2.2)]; exact b2
        · show (if 1666 = 1666 ∧ P = P ∧ a = a ∧ v = X 4 a then _ else _) = _
          rw [if_neg (fun q => e2 q.2.2.2)]; exact b3
        · show (if 1960 = 1960 ∧ 0 = 0 ∧ 0 = 0 ∧ 60 * a + v = 60 * a + X 4 a then _ else _) = _
          rw [if_neg (fun q => e3 q.2.2.2)]; exact b4
        · show (if 1667 = 1667 ∧ P = P ∧ a = a ∧ v = X 4 a then _ else _) = _
          rw [if_neg (fun q => e2 q.2.2.2)]; exact b6
        · show (if 1961 = 1961 ∧ 0 = 0 ∧ 0 = 0 ∧ 60 * a + v = 60 * a + X 4 a then _ else _) = _
          rw [if_neg (fun q => e3 q.2.2.2)]; exact b7
        · show _ ≤ upw X a (X 4 a) 2 (X 4 a + 1) 9 a; rw [upw9, if_pos rfl]; omega
        · show (if 1668 = 1668 ∧ P = P ∧ a = a ∧ v = X 4 a then _ else _) = _
          rw [if_neg (fun q => e2 q.2.2.2)]; exact b10
        · show (if 1963 = 1963 ∧ 0 = 0 ∧ 0 = 0 ∧ 60 * a + v = 60 * a + X 4 a then _ else _) = _
          rw [if_neg (fun q => e3 q.2.2.2)]; exact b11
  · have e4 : (upx (upx (upw X s (X 4 s) 2 (X 4 s + 1)) 15 (60 * s + X 4 s) cl) 16 (60 * s + X 4 s) b) 4 a = X 4 a := by show upw X s (X 4 s) 2 (X 4 s + 1) 4 a = _; rw [upw4, if_neg e]
    rw [e4]
    refine ⟨a1, a2, ?_, ?_, fun v hv => ?_⟩
    · unfold newC
      rw [zI_sI, if_neg (fun q => e q.2.2.1)]; exact a3
    · show (if 1958 = 1958 ∧ 0 = 0 ∧ 0 = 0 ∧ a = s then _ else _) = _
      rw [if_neg (fun q => e q.2.2.2)]; exact a4
    · obtain ⟨b, z, cl, hb0, hc0, b1, b2, b3, b4, b5, b6, b7, b8, b9, b10, b11, b12⟩ := a5 v hv
      have e3 : ¬ (60 * a + v = 60 * s + X 4 s) := by omega
      refine ⟨b, z, cl, hb0.trans (if_neg (fun q => e3 q.2)).symm, hc0.trans (if_neg (fun q => e3 q.2)).symm, b1, ?_, ?_, ?_, b5, ?_, ?_, b8, ?_, ?_, ?_, fun c c1 c2 => ⟨fun _ => (b12 c c1 c2).1 (EHo.no h12), fun q => absurd (upwH2.mp q) (fun q => e q.1)⟩⟩
      · show (if 1665 = 1665 ∧ P = P ∧ a = s ∧ v = X 4 s then _ else _) = (if 1959 = 1959 ∧ 0 = 0 ∧ 0 = 0 ∧ 60 * a + v = 60 * s + X 4 s then _ else _)
        rw [if_neg (fun q => e q.2.2.1), if_neg (fun q => e3 q.2.2.2)]; exact b2
      · show (if 1666 = 1666 ∧ P = P ∧ a = s ∧ v = X 4 s then _ else _) = _
        rw [if_neg (fun q => e q.2.2.1)]; exact b3
      · show (if 1960 = 1960 ∧ 0 = 0 ∧ 0 = 0 ∧ 60 * a + v = 60 * s + X 4 s then _ else _) = _
        rw [if_neg (fun q => e3 q.2.2.2)]; exact b4
      · show (if 1667 = 1667 ∧ P = P ∧ a = s ∧ v = X 4 s then _ else _) = _
        rw [if_neg (fun q => e q.2.2.1)]; exact b6
      · show (if 1961 = 1961 ∧ 0 = 0 ∧ 0 = 0 ∧ 60 * a + v = 60 * s + X 4 s then _ else _) = _
        rw [if_neg (fun q => e3 q.2.2.2)]; exact b7
      · show _ ≤ upw X s (X 4 s) 2 (X 4 s + 1) 9 a; rw [upw9, if_neg e]; exact b9
      · show (if 1668 = 1668 ∧ P = P ∧ a = s ∧ v = X 4 s then _ else _) = _
        rw [if_neg (fun q => e q.2.2.1)]; exact b10
      · show (if 1963 = 1963 ∧ 0 = 0 ∧ 0 = 0 ∧ 60 * a + v = 60 * s + X 4 s then _ else _) = _
        rw [if_neg (fun q => e3 q.2.2.2)]; exact b11
end WI
