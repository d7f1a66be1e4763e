/-! WHAT A PROGRAM SAYS, without cells: Pd; the class's cells (PC) and the law's (PR) that say so -/
abbrev Op : Type := Int32 × Int64
abbrev Pd : Type := (Nat → Nat → Nat → Nat) × (Nat → Nat → Int64) × (Nat → Nat → List Op)
def dN (d : Pd) : Nat := d.1 0 0 0
def dM (d : Pd) : Nat := d.1 1 0 0
def dK (d : Pd) (s : Nat) : Nat := d.1 2 s 0
def dW (d : Pd) (s : Nat) : Nat := d.1 3 s 0
def dA (d : Pd) (s : Nat) : Nat := d.1 4 s 0
def dB (d : Pd) (s : Nat) : Nat := d.1 5 s 0
def dS (d : Pd) (s : Nat) : Nat := d.1 6 s 0
def dL (d : Pd) (s : Nat) : Nat := d.1 7 s 0
def dY (d : Pd) (s : Nat) : Nat := d.1 8 s 0
def dZ (d : Pd) (s : Nat) : Nat := d.1 9 s 0
def dP (d : Pd) (s c : Nat) : Nat := d.1 10 s c
def dCS (d : Pd) (c : Nat) : Nat := d.1 11 c 0
def dCF (d : Pd) (c : Nat) : Nat := d.1 12 c 0
def dNm (d : Pd) (s : Nat) : Int64 := d.2.1 s 0
def dCn (d : Pd) (s c : Nat) : Int64 := d.2.1 s (1 + c)
def dO (d : Pd) (s c : Nat) : List Op := d.2.2 s c
def dCO (d : Pd) (c : Nat) : List Op := d.2.2 (12 + c) 0
/-- operations: what they are, and the law's numbers of them -/
def opL (c : Int32) : Prop := c = 3 ∨ c = 2 ∨ c = 155
def opU (c : Int32) : Prop := c = 160 ∨ c = 158 ∨ c = 159
def opT : List (Int32 × Int32) := [(43, 10), (45, 11), (42, 12), (47, 13), (37, 14), (61, 20), (15422, 21), (60, 22), (62, 23), (15421, 24), (15933, 25), (156, 30), (157, 31), (152, 32), (153, 33)]
def opF : List (Int32 × Int32) → Int32 → Option Int32
  | [], _ => none
  | (a, b) :: l, c => if c = a then some b else opF l c
def opc (c : Int32) : Int32 := if c = 3 then 0 else if c = 2 then 1 else if c = 155 then 2 else if c = 158 then 40 else if c = 160 then 41 else if c = 159 then 42 else (opF opT c).getD 0
/-- from height h to height k -/
def hg (W : Nat) : Nat → List Op → Nat → Prop
  | h, [], k => h = k
  | h, (c, v) :: l, k => ((c = 3 ∨ c = 155 ∨ (c = 2 ∧ ∃ q, q < W ∧ v = lN q)) ∧ hg W (h + 1) l k) ∨ ((c = 158 ∨ c = 160 ∨ c = 159) ∧ 1 ≤ h ∧ hg W h l k) ∨ ((∃ b, opF opT c = some b) ∧ 2 ≤ h ∧ hg W (h - 1) l k)
def okO (W : Nat) (l : List Op) : Prop := l.length ≤ 60 ∧ hg W 0 l 1
theorem hg_app {W : Nat} {l2 : List Op} {k : Nat} : ∀ (l1 : List Op) (h m : Nat), hg W h l1 m → hg W m l2 k → hg W h (l1 ++ l2) k := by
  intro l1
  induction l1 with
  | nil =>
    intro h m h1 h2
    have e : h = m := h1
    subst e
    exact h2
  | cons o l ih =>
    intro h m h1 h2
    obtain ⟨c, v⟩ := o
    rcases h1 with ⟨q, h1⟩ | ⟨q, q2, h1⟩ | ⟨q, q2, h1⟩
    · exact Or.inl ⟨q, ih _ _ h1 h2⟩
    · exact Or.inr (Or.inl ⟨q, q2, ih _ _ h1 h2⟩)
    · exact Or.inr (Or.inr ⟨q, q2, ih _ _ h1 h2⟩)
theorem hg_up {W : Nat} {k : Nat} : ∀ (l : List Op) (h : Nat), hg W h l k → hg W (h + 1) l (k + 1) := by
  intro l
  induction l with
  | nil =>
    intro h h1
    have e : h = k := h1
    subst e
    rfl
  | cons o l ih =>
    intro h h1
    obtain ⟨c, v⟩ := o
    rcases h1 with ⟨q, h1⟩ | ⟨q, q2, h1⟩ | ⟨q, q2, h1⟩
    · exact Or.inl ⟨q, ih _ h1⟩
    · exact Or.inr (Or.inl ⟨q, by omega, ih _ h1⟩)
    · refine Or.inr (Or.inr ⟨q, by omega, ?_⟩)
      have e : h + 1 - 1 = h - 1 + 1 := by omega
      rw [e]
      exact ih _ h1
/-- a piece of code: in the class's cells, in the law's -/
def Cg (p : Nat) (σ : Zs) (a : Nat) (l : List Op) : Prop := ∀ j, j < l.length → zI σ 1348 p 0 (a + j) = (l.getD j (0, 0)).1 ∧ zJ σ 1349 p 0 (a + j) = (l.getD j (0, 0)).2
def Rg (g : Nat) (ρ : Zs) (st : Nat) (l : List Op) : Prop := (∀ j, j < l.length → zI ρ 1810 g 0 (st + j) = opc (l.getD j (0, 0)).1 ∧ ((l.getD j (0, 0)).1 = 155 ∨ zJ ρ 1811 g 0 (st + j) = (l.getD j (0, 0)).2 ∨ ¬ ((l.getD j (0, 0)).1 = 2 ∨ (l.getD j (0, 0)).1 = 3))) ∧ zI ρ 1810 g 0 (st + l.length) = 50
theorem Cg.tl {p : Nat} {σ : Zs} {a : Nat} {o : Op} {l : List Op} (h : Cg p σ a (o :: l)) : Cg p σ (a + 1) l := by
  intro j hj
  have := h (j + 1) (by simp only [List.length_cons]; omega)
  rw [List.getD_cons_succ] at this
  rw [Nat.add_assoc, Nat.add_comm 1 j]
  exact this
theorem Cg.hd {p : Nat} {σ : Zs} {a : Nat} {o : Op} {l : List Op} (h : Cg p σ a (o :: l)) : zI σ 1348 p 0 a = o.1 ∧ zJ σ 1349 p 0 a = o.2 := by
  have := h 0 (by simp only [List.length_cons]; omega)
  rw [List.getD_cons_zero] at this
  exact this
theorem Rg.tl {g : Nat} {ρ : Zs} {a : Nat} {o : Op} {l : List Op} (h : Rg g ρ a (o :: l)) : Rg g ρ (a + 1) l := by
  refine ⟨fun j hj => ?_, ?_⟩
  · have := h.1 (j + 1) (by simp only [List.length_cons]; omega)
    rw [List.getD_cons_succ] at this
    rw [Nat.add_assoc, Nat.add_comm 1 j]
    exact this
  · have := h.2
    rw [List.length_cons] at this
    rw [Nat.add_assoc, Nat.add_comm 1]
    exact this
theorem Rg.hd {g : Nat} {ρ : Zs} {a : Nat} {o : Op} {l : List Op} (h : Rg g ρ a (o :: l)) : zI ρ 1810 g 0 a = opc o.1 ∧ (o.1 = 155 ∨ zJ ρ 1811 g 0 a = o.2 ∨ ¬ (o.1 = 2 ∨ o.1 = 3)) := by
  have := h.1 0 (by simp only [List.length_cons]; omega)
  rw [List.getD_cons_zero] at this
  exact this
/-- what the class's cells say -/
def PCs (p : Nat) (d : Pd) (s L : Nat) (σ : Zs) : Prop :=
  zJ σ 448 p s 0 = dNm d s ∧ zI σ 449 p s 0 = nI (dK d s) ∧ zI σ 450 p s 0 = nI (dW d s) ∧ (∀ c, c < dW d s → zJ σ 1475 p s c = dCn d s c)
  ∧ zI σ 1476 p s 0 = (if dK d s = 0 then -1 else nI (dA d s)) ∧ zI σ 1476 p s 1 = (if dK d s = 4 ∨ dK d s = 5 then nI (dB d s) else -1)
  ∧ (5 ≤ dK d s → zI σ 453 p s 0 = nI (dY d s)) ∧ (dK d s = 5 → zI σ 454 p s 0 = nI (dZ d s))
  ∧ (dK d s = 0 ∨ 5 ≤ dK d s → zI σ 455 p s 0 = nI (dS d s)) ∧ (dK d s = 7 → zI σ 456 p s 0 = nI (dL d s))
  ∧ (dK d s = 3 → ∀ c, c < dW d s → zI σ 1483 p s c = nI (dP d s c)) ∧ (dK d s = 7 → ∀ c, 2 ≤ c → c < dW d s → zI σ 1483 p s c = nI (128 + dP d s c))
  ∧ (∀ c, (dK d s = 1 ∧ c = 0) ∨ (dK d s = 2 ∧ dW d (dA d s) ≤ c ∧ c < dW d s) ∨ (dK d s = 7 ∧ 2 ≤ c ∧ c < dW d s ∧ dP d s c ≠ 23) → ∃ a, zI σ 1481 p s c = nI a ∧ zI σ 1482 p s c = nI (a + (dO d s c).length) ∧ a + (dO d s c).length ≤ L ∧ Cg p σ a (dO d s c))
def PC (p : Nat) (d : Pd) (σ : Zs) : Prop := zI σ 321 p 0 0 = nI (dN d) ∧ zI σ 323 p 0 0 = nI (dM d) ∧ ∃ L, L ≤ 1500 ∧ zI σ 326 p 0 0 = nI L ∧ (∀ s, s < dN d → PCs p d s L σ)
  ∧ ∀ c, c < dM d → zI σ 0 p c 0 = nI (dCS d c) ∧ zI σ 1 p c 0 = nI (128 + dCF d c) ∧ ∃ a, zI σ 2 p c 0 = nI a ∧ zI σ 3 p c 0 = nI (a + (dCO d c).length) ∧ a + (dCO d c).length ≤ L ∧ Cg p σ a (dCO d c)
/-- what the law's cells say -/
def PRs (g : Nat) (d : Pd) (s : Nat) (ρ : Zs) : Prop :=
  zJ ρ 1793 g 0 s = dNm d s ∧ zI ρ 1794 g 0 s = nI (dK d s) ∧ zI ρ 1795 g 0 s = nI (dW d s) ∧ (∀ c, c < dW d s → zJ ρ 1796 g 0 (6 * s + c) = dCn d s c)
  ∧ zI ρ 1797 g 0 s = (if dK d s = 0 then -1 else nI (dA d s)) ∧ zI ρ 1798 g 0 s = (if dK d s = 4 ∨ dK d s = 5 then nI (dB d s) else -1)
  ∧ (5 ≤ dK d s → zI ρ 1801 g 0 s = nI (dY d s)) ∧ (dK d s = 5 → zI ρ 1802 g 0 s = nI (dZ d s))
  ∧ (dK d s = 0 ∨ 5 ≤ dK d s → zI ρ 1799 g 0 s = nI (dS d s)) ∧ (dK d s = 7 → zI ρ 1800 g 0 s = nI (dL d s))
  ∧ (dK d s = 3 → ∀ c, c < dW d s → zI ρ 1803 g 0 (6 * s + c) = nI (dP d s c)) ∧ (dK d s = 7 → ∀ c, 2 ≤ c → c < dW d s → zI ρ 1804 g 0 (6 * s + c) = nI (dP d s c))
  ∧ (dK d s = 1 → ∃ a, zI ρ 1799 g 0 s = nI a ∧ a + (dO d s 0).length < 3000 ∧ Rg g ρ a (dO d s 0))
  ∧ (∀ c, (dK d s = 2 ∧ dW d (dA d s) ≤ c ∧ c < dW d s) ∨ (dK d s = 7 ∧ 2 ≤ c ∧ c < dW d s ∧ dP d s c ≠ 23) → ∃ a, zI ρ 1803 g 0 (6 * s + c) = nI a ∧ a + (dO d s c).length < 3000 ∧ Rg g ρ a (dO d s c))
def PR (g : Nat) (d : Pd) (ρ : Zs) : Prop := zI ρ 768 g 0 0 = nI (dN d) ∧ zI ρ 781 g 0 0 = nI (dM d) ∧ (∀ s, s < dN d → PRs g d s ρ)
  ∧ ∀ c, c < dM d → zI ρ 1806 g 0 c = nI (dCS d c) ∧ zI ρ 1808 g 0 c = nI (dCF d c) ∧ ∃ a, zI ρ 1807 g 0 c = nI a ∧ a + (dCO d c).length < 3000 ∧ Rg g ρ a (dCO d c)
/-- what holds of a right program -/
def WFs (d : Pd) (s : Nat) : Prop := dK d s ≤ 7 ∧ 1 ≤ dW d s ∧ dW d s ≤ 6 ∧ dS d s ≤ 1000 ∧ dL d s ≤ 1000 ∧ (dK d s ≠ 0 → dA d s < s) ∧ (dK d s = 4 ∨ dK d s = 5 → dB d s < s)
  ∧ (dK d s = 1 → dW d s = dW d (dA d s) ∧ okO (dW d (dA d s)) (dO d s 0))
  ∧ (dK d s = 2 → dW d (dA d s) ≤ dW d s ∧ ∀ c, dW d (dA d s) ≤ c → c < dW d s → okO (dW d (dA d s)) (dO d s c))
  ∧ (dK d s = 3 → ∀ c, c < dW d s → dP d s c < dW d (dA d s))
  ∧ (dK d s = 4 → dW d s = dW d (dA d s) ∧ dW d s = dW d (dB d s))
  ∧ (dK d s = 5 → dY d s < dW d (dA d s) ∧ dZ d s < dW d (dB d s) ∧ dW d s + 1 = dW d (dA d s) + dW d (dB d s))
  ∧ (dK d s = 6 → dY d s < dW d (dA d s) ∧ dW d s = dW d (dA d s))
  ∧ (dK d s = 7 → dY d s < dW d (dA d s) ∧ 1 ≤ dS d s ∧ 2 ≤ dW d s ∧ ∀ c, 2 ≤ c → c < dW d s → 22 ≤ dP d s c ∧ dP d s c ≤ 26 ∧ (dP d s c ≠ 23 → okO (dW d (dA d s)) (dO d s c)))
def WFd (d : Pd) : Prop := dN d ≤ 12 ∧ dM d ≤ 8 ∧ (∀ s, s < dN d → WFs d s) ∧ ∀ c, c < dM d → dCS d c < dN d ∧ 19 ≤ dCF d c ∧ dCF d c ≤ 21 ∧ okO (dW d (dCS d c)) (dCO d c)
