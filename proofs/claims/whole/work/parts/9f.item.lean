/-! ITEMS, both: the program that is being made -/
def PRsz (g : Nat) (d : Pd) (s z : Nat) (ρ : Zs) : Prop :=
  zJ ρ 1793 g 0 s = dNm d s ∧ zI ρ 1794 g 0 s = nI (dK d s) ∧ zI ρ 1795 g 0 s = nI (dW d s) ∧ (∀ c, c < dW d s → zJ ρ 1796 g 0 (6 * s + c) = dCn d s c)
  ∧ zI ρ 1797 g 0 s = (if dK d s = 0 then -1 else nI (dA d s)) ∧ zI ρ 1798 g 0 s = (if dK d s = 4 ∨ dK d s = 5 then nI (dB d s) else -1)
  ∧ (5 ≤ dK d s → zI ρ 1801 g 0 s = nI (dY d s)) ∧ (dK d s = 5 → zI ρ 1802 g 0 s = nI (dZ d s))
  ∧ (dK d s = 0 ∨ 5 ≤ dK d s → zI ρ 1799 g 0 s = nI (dS d s)) ∧ (dK d s = 7 → zI ρ 1800 g 0 s = nI (dL d s))
  ∧ (dK d s = 3 → ∀ c, c < dW d s → zI ρ 1803 g 0 (6 * s + c) = nI (dP d s c)) ∧ (dK d s = 7 → ∀ c, 2 ≤ c → c < dW d s → zI ρ 1804 g 0 (6 * s + c) = nI (dP d s c))
  ∧ (dK d s = 1 → ∃ a, zI ρ 1799 g 0 s = nI a ∧ a + (dO d s 0).length < z ∧ Rg g ρ a (dO d s 0))
  ∧ (∀ c, (dK d s = 2 ∧ dW d (dA d s) ≤ c ∧ c < dW d s) ∨ (dK d s = 7 ∧ 2 ≤ c ∧ c < dW d s ∧ dP d s c ≠ 23) → ∃ a, zI ρ 1803 g 0 (6 * s + c) = nI a ∧ a + (dO d s c).length < z ∧ Rg g ρ a (dO d s c))
def PCc (p : Nat) (d : Pd) (c L : Nat) (σ : Zs) : Prop := zI σ 0 p c 0 = nI (dCS d c) ∧ zI σ 1 p c 0 = nI (128 + dCF d c) ∧ ∃ a, zI σ 2 p c 0 = nI a ∧ zI σ 3 p c 0 = nI (a + (dCO d c).length) ∧ a + (dCO d c).length ≤ L ∧ Cg p σ a (dCO d c)
def PRcz (g : Nat) (d : Pd) (c z : Nat) (ρ : Zs) : Prop := zI ρ 1806 g 0 c = nI (dCS d c) ∧ zI ρ 1808 g 0 c = nI (dCF d c) ∧ ∃ a, zI ρ 1807 g 0 c = nI a ∧ a + (dCO d c).length < z ∧ Rg g ρ a (dCO d c)
def wI (S n k c q s : Nat) : Bool := decide (q = 0) && [258, 259, 260, 261, 262, 263, 195, 196, 197, 198, 199, 201, 202, 203, 204, 205, 1224].contains c || decide (q = S) && ([326, 1348, 1349].contains c || decide (s = n) && [448, 449, 453, 454, 455, 456, 1476, 1481, 1482, 1483].contains c || decide (s = k) && [0, 1, 2, 3].contains c)
def IFC (S n k L : Nat) (σ0 σ : Zs) : Prop := (∀ c q s, wI S n k c q s = false → ∀ i, zI σ c q s i = zI σ0 c q s i ∧ zJ σ c q s i = zJ σ0 c q s i ∧ zR σ c q s i = zR σ0 c q s i) ∧ ∀ j, j < L → zI σ 1348 S 0 j = zI σ0 1348 S 0 j ∧ zJ σ 1349 S 0 j = zJ σ0 1349 S 0 j
def wJ (g n c q i : Nat) : Bool := decide (q = 0) && [905, 907, 908, 910, 911, 1936, 1937, 1938].contains c || decide (q = g) && ([785, 1810, 1811].contains c || decide (i = n) && [1794, 1797, 1798, 1799, 1800, 1801, 1802].contains c)
def IFL (g n z : Nat) (ρ0 ρ : Zs) : Prop := (∀ c q s i, wJ g n c q i = false → zI ρ c q s i = zI ρ0 c q s i ∧ zJ ρ c q s i = zJ ρ0 c q s i ∧ zR ρ c q s i = zR ρ0 c q s i) ∧ ∀ j, j < z → zI ρ 1810 g 0 j = zI ρ0 1810 g 0 j ∧ zJ ρ 1811 g 0 j = zJ ρ0 1811 g 0 j
theorem wI_0 {S n k c s : Nat} (h : [258, 259, 260, 261, 262, 263, 195, 196, 197, 198, 199, 201, 202, 203, 204, 205, 1224].contains c = true) : wI S n k c 0 s = true := by unfold wI; rw [h]; rfl
theorem wI_S {S n k c : Nat} (h : [448, 449, 453, 454, 455, 456, 1476, 1481, 1482, 1483].contains c = true) : wI S n k c S n = true := by unfold wI; rw [h]; simp
theorem wI_K {S n k c : Nat} (h : [0, 1, 2, 3].contains c = true) : wI S n k c S k = true := by unfold wI; rw [h]; simp
theorem wI_E {S n k c s : Nat} (h : [326, 1348, 1349].contains c = true) : wI S n k c S s = true := by unfold wI; rw [h]; simp
theorem wI_n {S n k c q s : Nat} (h1 : [258, 259, 260, 261, 262, 263, 195, 196, 197, 198, 199, 201, 202, 203, 204, 205, 1224].contains c = false) (h2 : [326, 1348, 1349].contains c = false) (h3 : s ≠ n ∨ [448, 449, 453, 454, 455, 456, 1476, 1481, 1482, 1483].contains c = false) (h4 : s ≠ k ∨ [0, 1, 2, 3].contains c = false) : wI S n k c q s = false := by
  unfold wI
  rw [h1, h2]
  have e3 : (decide (s = n) && [448, 449, 453, 454, 455, 456, 1476, 1481, 1482, 1483].contains c) = false := by
    rcases h3 with q | q
    · rw [decide_eq_false q]; rfl
    · rw [q]; simp
  have e4 : (decide (s = k) && [0, 1, 2, 3].contains c) = false := by
    rcases h4 with q | q
    · rw [decide_eq_false q]; rfl
    · rw [q]; simp
  rw [e3, e4]; simp
theorem wJ_0 {g n c i : Nat} (h : [905, 907, 908, 910, 911, 1936, 1937, 1938].contains c = true) : wJ g n c 0 i = true := by unfold wJ; rw [h]; rfl
theorem wJ_G {g n c : Nat} (h : [1794, 1797, 1798, 1799, 1800, 1801, 1802].contains c = true) : wJ g n c g n = true := by unfold wJ; rw [h]; simp
theorem wJ_E {g n c i : Nat} (h : [785, 1810, 1811].contains c = true) : wJ g n c g i = true := by unfold wJ; rw [h]; simp
theorem wJ_n {g n c q i : Nat} (h1 : [905, 907, 908, 910, 911, 1936, 1937, 1938].contains c = false) (h2 : [785, 1810, 1811].contains c = false) (h3 : i ≠ n ∨ [1794, 1797, 1798, 1799, 1800, 1801, 1802].contains c = false) : wJ g n c q i = false := by
  unfold wJ
  rw [h1, h2]
  have e3 : (decide (i = n) && [1794, 1797, 1798, 1799, 1800, 1801, 1802].contains c) = false := by
    rcases h3 with q | q
    · rw [decide_eq_false q]; rfl
    · rw [q]; simp
  rw [e3]; simp
section IT0
variable {S g n k L z c q s i : Nat} {σ0 σ σ1 ρ0 ρ ρ1 : Zs} {v : Int32} {w : Int64} {r : Nat × Nat}
theorem IFC.rf : IFC S n k L σ σ := ⟨fun _ _ _ _ _ => ⟨rfl, rfl, rfl⟩, fun _ _ => ⟨rfl, rfl⟩⟩
theorem IFL.rf : IFL g n z ρ ρ := ⟨fun _ _ _ _ _ => ⟨rfl, rfl, rfl⟩, fun _ _ => ⟨rfl, rfl⟩⟩
theorem IFC.tr (h : IFC S n k L σ0 σ1) (k2 : IFC S n k L σ1 σ) : IFC S n k L σ0 σ := ⟨fun c q s hw i => ⟨((k2.1 c q s hw i).1).trans (h.1 c q s hw i).1, ((k2.1 c q s hw i).2.1).trans (h.1 c q s hw i).2.1, ((k2.1 c q s hw i).2.2).trans (h.1 c q s hw i).2.2⟩, fun j hj => ⟨((k2.2 j hj).1).trans (h.2 j hj).1, ((k2.2 j hj).2).trans (h.2 j hj).2⟩⟩
theorem IFL.tr (h : IFL g n z ρ0 ρ1) (k2 : IFL g n z ρ1 ρ) : IFL g n z ρ0 ρ := ⟨fun c q s i hw => ⟨((k2.1 c q s i hw).1).trans (h.1 c q s i hw).1, ((k2.1 c q s i hw).2.1).trans (h.1 c q s i hw).2.1, ((k2.1 c q s i hw).2.2).trans (h.1 c q s i hw).2.2⟩, fun j hj => ⟨((k2.2 j hj).1).trans (h.2 j hj).1, ((k2.2 j hj).2).trans (h.2 j hj).2⟩⟩
theorem IFC.dn {L2 : Nat} (h : IFC S n k L2 σ0 σ) (hL : L ≤ L2) : IFC S n k L σ0 σ := ⟨h.1, fun j hj => h.2 j (by omega)⟩
theorem IFL.dn {z2 : Nat} (h : IFL g n z2 ρ0 ρ) (hL : z ≤ z2) : IFL g n z ρ0 ρ := ⟨h.1, fun j hj => h.2 j (by omega)⟩
theorem IFC.I (h : IFC S n k L σ0 σ) (hw : wI S n k c q s = true) (hn : c = 1348 → L ≤ i) : IFC S n k L σ0 (sI σ c q s i v) := by
  refine ⟨fun c' q' s' hc i' => ?_, fun j hj => ?_⟩
  · obtain ⟨h1, h2, h3⟩ := h.1 c' q' s' hc i'
    refine ⟨?_, h2, h3⟩
    rw [zI_sI, if_neg, h1]
    rintro ⟨rfl, rfl, rfl, _⟩
    rw [hw] at hc
    cases hc
  · obtain ⟨h1, h2⟩ := h.2 j hj
    refine ⟨?_, h2⟩
    rw [zI_sI, if_neg, h1]
    rintro ⟨h3, _, _, h4⟩
    have := hn h3.symm
    omega
theorem IFC.J (h : IFC S n k L σ0 σ) (hw : wI S n k c q s = true) (hn : c = 1349 → L ≤ i) : IFC S n k L σ0 (sJ σ c q s i w) := by
  refine ⟨fun c' q' s' hc i' => ?_, fun j hj => ?_⟩
  · obtain ⟨h1, h2, h3⟩ := h.1 c' q' s' hc i'
    refine ⟨h1, ?_, h3⟩
    rw [zJ_sJ, if_neg, h2]
    rintro ⟨rfl, rfl, rfl, _⟩
    rw [hw] at hc
    cases hc
  · obtain ⟨h1, h2⟩ := h.2 j hj
    refine ⟨h1, ?_⟩
    rw [zJ_sJ, if_neg, h2]
    rintro ⟨h3, _, _, h4⟩
    have := hn h3.symm
    omega
theorem IFC.R (h : IFC S n k L σ0 σ) (hw : wI S n k c q s = true) : IFC S n k L σ0 (sR σ c q s i r) := by
  refine ⟨fun c' q' s' hc i' => ?_, h.2⟩
  obtain ⟨h1, h2, h3⟩ := h.1 c' q' s' hc i'
  refine ⟨h1, h2, ?_⟩
  rw [zR_sR, if_neg, h3]
  rintro ⟨rfl, rfl, rfl, _⟩
  rw [hw] at hc
  cases hc
theorem IFL.I (h : IFL g n z ρ0 ρ) (hw : wJ g n c q i = true) (hn : c = 1810 → z ≤ i) : IFL g n z ρ0 (sI ρ c q s i v) := by
  refine ⟨fun c' q' s' i' hc => ?_, fun j hj => ?_⟩
  · obtain ⟨h1, h2, h3⟩ := h.1 c' q' s' i' hc
    refine ⟨?_, h2, h3⟩
    rw [zI_sI, if_neg, h1]
    rintro ⟨rfl, rfl, rfl, rfl⟩
    rw [hw] at hc
    cases hc
  · obtain ⟨h1, h2⟩ := h.2 j hj
    refine ⟨?_, h2⟩
    rw [zI_sI, if_neg, h1]
    rintro ⟨h3, _, _, h4⟩
    have := hn h3.symm
    omega
theorem IFL.J (h : IFL g n z ρ0 ρ) (hw : wJ g n c q i = true) (hn : c = 1811 → z ≤ i) : IFL g n z ρ0 (sJ ρ c q s i w) := by
  refine ⟨fun c' q' s' i' hc => ?_, fun j hj => ?_⟩
  · obtain ⟨h1, h2, h3⟩ := h.1 c' q' s' i' hc
    refine ⟨h1, ?_, h3⟩
    rw [zJ_sJ, if_neg, h2]
    rintro ⟨rfl, rfl, rfl, rfl⟩
    rw [hw] at hc
    cases hc
  · obtain ⟨h1, h2⟩ := h.2 j hj
    refine ⟨h1, ?_⟩
    rw [zJ_sJ, if_neg, h2]
    rintro ⟨h3, _, _, h4⟩
    have := hn h3.symm
    omega
theorem WFC.ifc (h : WFC S L σ0 σ) : IFC S n k L σ0 σ := by
  refine ⟨fun c q s hw i => h.1 c q ?_ s i, h.2⟩
  unfold wI at hw; unfold wW
  simp only [Bool.or_eq_false_iff, Bool.and_eq_false_iff, decide_eq_false_iff_not] at hw ⊢
  refine ⟨hw.1.imp id (fun z => ?_), hw.2.imp id (fun z => z.1.1)⟩
  simp only [List.contains_cons, List.contains_nil, Bool.or_false, Bool.or_eq_false_iff, beq_eq_false_iff_ne] at z ⊢
  obtain ⟨z1, z2, z3, z4, z5, z6, z7, z8, z9, z10, z11, z12, z13, z14, z15, z16, z17⟩ := z
  exact ⟨z1, z2, z3, z4, z5, z6, z16⟩
theorem XFL.ifl (h : XFL g z ρ0 ρ) : IFL g n z ρ0 ρ := by
  refine ⟨fun c q s i hw => h.1 c q ?_ s i, h.2⟩
  unfold wJ at hw; unfold wY
  simp only [Bool.or_eq_false_iff, Bool.and_eq_false_iff, decide_eq_false_iff_not] at hw ⊢
  refine ⟨hw.1.imp id (fun z => ?_), hw.2.imp id (fun z => z.1)⟩
  simp only [List.contains_cons, List.contains_nil, Bool.or_false, Bool.or_eq_false_iff, beq_eq_false_iff_ne] at z ⊢
  exact ⟨z.1, z.2.1, z.2.2.1⟩
theorem Cg.fr {a : Nat} {l : List Op} (h : Cg S σ0 a l) (hF : IFC S n k L σ0 σ) (hL : a + l.length ≤ L) : Cg S σ a l := fun j hj => by
  obtain ⟨h1, h2⟩ := hF.2 (a + j) (by omega)
  rw [h1, h2]; exact h j hj
theorem Rg.fr {a : Nat} {l : List Op} (h : Rg g ρ0 a l) (hF : IFL g n z ρ0 ρ) (hL : a + l.length < z) : Rg g ρ a l := by
  refine ⟨fun j hj => ?_, ?_⟩
  · obtain ⟨h1, h2⟩ := hF.2 (a + j) (by omega)
    rw [h1, h2]; exact h.1 j hj
  · rw [(hF.2 (a + l.length) (by omega)).1]; exact h.2
theorem PCs.fr {d : Pd} {L2 : Nat} (h : PCs S d s L σ0) (hF : IFC S n k L σ0 σ) (hs : s ≠ n) (hL : L ≤ L2) : PCs S d s L2 σ := by
  obtain ⟨h1, h2, h3, h4, h5, h6, h7, h8, h9, h10, h11, h12, h13⟩ := h
  have e : ∀ c, [258, 259, 260, 261, 262, 263, 195, 196, 197, 198, 199, 201, 202, 203, 204, 205, 1224].contains c = false → [326, 1348, 1349].contains c = false → [0, 1, 2, 3].contains c = false → ∀ i, zI σ c S s i = zI σ0 c S s i ∧ zJ σ c S s i = zJ σ0 c S s i := fun c q1 q2 q3 i => ⟨(hF.1 c S s (wI_n q1 q2 (Or.inl hs) (Or.inr q3)) i).1, (hF.1 c S s (wI_n q1 q2 (Or.inl hs) (Or.inr q3)) i).2.1⟩
  refine ⟨((e 448 rfl rfl rfl 0).2).trans h1, ((e 449 rfl rfl rfl 0).1).trans h2, ((e 450 rfl rfl rfl 0).1).trans h3, fun c hc => ((e 1475 rfl rfl rfl c).2).trans (h4 c hc), ((e 1476 rfl rfl rfl 0).1).trans h5, ((e 1476 rfl rfl rfl 1).1).trans h6, fun q => ((e 453 rfl rfl rfl 0).1).trans (h7 q), fun q => ((e 454 rfl rfl rfl 0).1).trans (h8 q), fun q => ((e 455 rfl rfl rfl 0).1).trans (h9 q), fun q => ((e 456 rfl rfl rfl 0).1).trans (h10 q), fun q c hc => ((e 1483 rfl rfl rfl c).1).trans (h11 q c hc), fun q c hc hc2 => ((e 1483 rfl rfl rfl c).1).trans (h12 q c hc hc2), fun c q => ?_⟩
  obtain ⟨a, a1, a2, a3, a4⟩ := h13 c q
  exact ⟨a, ((e 1481 rfl rfl rfl c).1).trans a1, ((e 1482 rfl rfl rfl c).1).trans a2, by omega, a4.fr hF a3⟩
theorem PCc.fr {d : Pd} {L2 : Nat} (h : PCc S d c L σ0) (hF : IFC S n k L σ0 σ) (hs : c ≠ k) (hL : L ≤ L2) : PCc S d c L2 σ := by
  obtain ⟨h1, h2, a, a1, a2, a3, a4⟩ := h
  have e : ∀ f, [258, 259, 260, 261, 262, 263, 195, 196, 197, 198, 199, 201, 202, 203, 204, 205, 1224].contains f = false → [326, 1348, 1349].contains f = false → [448, 449, 453, 454, 455, 456, 1476, 1481, 1482, 1483].contains f = false → zI σ f S c 0 = zI σ0 f S c 0 := fun f q1 q2 q3 => (hF.1 f S c (wI_n q1 q2 (Or.inr q3) (Or.inl hs)) 0).1
  exact ⟨(e 0 rfl rfl rfl).trans h1, (e 1 rfl rfl rfl).trans h2, a, (e 2 rfl rfl rfl).trans a1, (e 3 rfl rfl rfl).trans a2, by omega, a4.fr hF a3⟩
theorem PRsz.fr {d : Pd} {z2 : Nat} (h : PRsz g d s z ρ0) (hF : IFL g n z ρ0 ρ) (hs : s ≠ n) (hL : z ≤ z2) : PRsz g d s z2 ρ := by
  obtain ⟨h1, h2, h3, h4, h5, h6, h7, h8, h9, h10, h11, h12, h13, h14⟩ := h
  have e : ∀ c, [905, 907, 908, 910, 911, 1936, 1937, 1938].contains c = false → [785, 1810, 1811].contains c = false → zI ρ c g 0 s = zI ρ0 c g 0 s ∧ zJ ρ c g 0 s = zJ ρ0 c g 0 s := fun c q1 q2 => ⟨(hF.1 c g 0 s (wJ_n q1 q2 (Or.inl hs))).1, (hF.1 c g 0 s (wJ_n q1 q2 (Or.inl hs))).2.1⟩
  have e2 : ∀ c, [905, 907, 908, 910, 911, 1936, 1937, 1938].contains c = false → [785, 1810, 1811].contains c = false → [1794, 1797, 1798, 1799, 1800, 1801, 1802].contains c = false → ∀ i, zI ρ c g 0 i = zI ρ0 c g 0 i ∧ zJ ρ c g 0 i = zJ ρ0 c g 0 i := fun c q1 q2 q3 i => ⟨(hF.1 c g 0 i (wJ_n q1 q2 (Or.inr q3))).1, (hF.1 c g 0 i (wJ_n q1 q2 (Or.inr q3))).2.1⟩
  refine ⟨((e 1793 rfl rfl).2).trans h1, ((e 1794 rfl rfl).1).trans h2, ((e 1795 rfl rfl).1).trans h3, fun c hc => ((e2 1796 rfl rfl rfl _).2).trans (h4 c hc), ((e 1797 rfl rfl).1).trans h5, ((e 1798 rfl rfl).1).trans h6, fun q => ((e 1801 rfl rfl).1).trans (h7 q), fun q => ((e 1802 rfl rfl).1).trans (h8 q), fun q => ((e 1799 rfl rfl).1).trans (h9 q), fun q => ((e 1800 rfl rfl).1).trans (h10 q), fun q c hc => ((e2 1803 rfl rfl rfl _).1).trans (h11 q c hc), fun q c hc hc2 => ((e2 1804 rfl rfl rfl _).1).trans (h12 q c hc hc2), fun q => ?_, fun c q => ?_⟩
  · obtain ⟨a, a1, a2, a3⟩ := h13 q
    exact ⟨a, ((e 1799 rfl rfl).1).trans a1, by omega, a3.fr hF a2⟩
  · obtain ⟨a, a1, a2, a3⟩ := h14 c q
    exact ⟨a, ((e2 1803 rfl rfl rfl _).1).trans a1, by omega, a3.fr hF a2⟩
theorem PRcz.fr {d : Pd} {z2 : Nat} (h : PRcz g d c z ρ0) (hF : IFL g n z ρ0 ρ) (hL : z ≤ z2) : PRcz g d c z2 ρ := by
  obtain ⟨h1, h2, a, a1, a2, a3⟩ := h
  have e2 : ∀ f, [905, 907, 908, 910, 911, 1936, 1937, 1938].contains f = false → [785, 1810, 1811].contains f = false → [1794, 1797, 1798, 1799, 1800, 1801, 1802].contains f = false → zI ρ f g 0 c = zI ρ0 f g 0 c := fun f q1 q2 q3 => (hF.1 f g 0 c (wJ_n q1 q2 (Or.inr q3))).1
  exact ⟨(e2 1806 rfl rfl rfl).trans h1, (e2 1808 rfl rfl rfl).trans h2, a, (e2 1807 rfl rfl rfl).trans a1, by omega, a3.fr hF a2⟩
end IT0
/-- a description with one more stream -/
def dPut (d : Pd) (K w A B Sp La Y Z : Nat) (P : Nat → Nat) (nm : Int64) (cn : Nat → Int64) (o : Nat → List Op) : Pd :=
  (fun f s c => if f = 0 then d.1 0 0 0 + 1 else if f = 2 then (if s = dN d then K else d.1 2 s 0) else if f = 3 then (if s = dN d then w else d.1 3 s 0) else if f = 4 then (if s = dN d then A else d.1 4 s 0) else if f = 5 then (if s = dN d then B else d.1 5 s 0) else if f = 6 then (if s = dN d then Sp else d.1 6 s 0) else if f = 7 then (if s = dN d then La else d.1 7 s 0) else if f = 8 then (if s = dN d then Y else d.1 8 s 0) else if f = 9 then (if s = dN d then Z else d.1 9 s 0) else if f = 10 then (if s = dN d then P c else d.1 10 s c) else d.1 f s c,
   fun s i => if s = dN d then (if i = 0 then nm else cn (i - 1)) else d.2.1 s i,
   fun s c => if s = dN d then o c else d.2.2 s c)
/-- a description with one more check -/
def dChk (d : Pd) (a f : Nat) (o : List Op) : Pd :=
  (fun e s c => if e = 1 then d.1 1 0 0 + 1 else if e = 11 then (if s = dM d then a else d.1 11 s 0) else if e = 12 then (if s = dM d then f else d.1 12 s 0) else d.1 e s c,
   d.2.1, fun s c => if s = 12 + dM d then o else d.2.2 s c)
section DP
variable {d : Pd} {K w A B Sp La Y Z s c : Nat} {P : Nat → Nat} {nm : Int64} {cn : Nat → Int64} {o : Nat → List Op}
theorem dp_N : dN (dPut d K w A B Sp La Y Z P nm cn o) = dN d + 1 := rfl
theorem dp_M : dM (dPut d K w A B Sp La Y Z P nm cn o) = dM d := rfl
theorem dp_K : dK (dPut d K w A B Sp La Y Z P nm cn o) s = if s = dN d then K else dK d s := rfl
theorem dp_W : dW (dPut d K w A B Sp La Y Z P nm cn o) s = if s = dN d then w else dW d s := rfl
theorem dp_A : dA (dPut d K w A B Sp La Y Z P nm cn o) s = if s = dN d then A else dA d s := rfl
theorem dp_B : dB (dPut d K w A B Sp La Y Z P nm cn o) s = if s = dN d then B else dB d s := rfl
theorem dp_S : dS (dPut d K w A B Sp La Y Z P nm cn o) s = if s = dN d then Sp else dS d s := rfl
theorem dp_L : dL (dPut d K w A B Sp La Y Z P nm cn o) s = if s = dN d then La else dL d s := rfl
theorem dp_Y : dY (dPut d K w A B Sp La Y Z P nm cn o) s = if s = dN d then Y else dY d s := rfl
theorem dp_Z : dZ (dPut d K w A B Sp La Y Z P nm cn o) s = if s = dN d then Z else dZ d s := rfl
theorem dp_P : dP (dPut d K w A B Sp La Y Z P nm cn o) s c = if s = dN d then P c else dP d s c := rfl
theorem dp_Nm : dNm (dPut d K w A B Sp La Y Z P nm cn o) s = if s = dN d then nm else dNm d s := rfl
theorem dp_Cn : dCn (dPut d K w A B Sp La Y Z P nm cn o) s c = if s = dN d then cn c else dCn d s c := by
  show (if s = dN d then (if 1 + c = 0 then nm else cn (1 + c - 1)) else d.2.1 s (1 + c)) = _
  rw [if_neg (show ¬ 1 + c = 0 by omega), Nat.add_sub_cancel_left]; rfl
theorem dp_O : dO (dPut d K w A B Sp La Y Z P nm cn o) s c = if s = dN d then o c else dO d s c := rfl
theorem dp_CS : dCS (dPut d K w A B Sp La Y Z P nm cn o) c = dCS d c := rfl
theorem dp_CF : dCF (dPut d K w A B Sp La Y Z P nm cn o) c = dCF d c := rfl
theorem dp_CO (h : dN d < 12) : dCO (dPut d K w A B Sp La Y Z P nm cn o) c = dCO d c := by
  show (if 12 + c = dN d then o 0 else d.2.2 (12 + c) 0) = _
  rw [if_neg (by omega)]; rfl
/-- every other stream's words are as before -/
theorem PCs.put {S L : Nat} {σ : Zs} (h : PCs S d s L σ) (hs : s < dN d) (hA : dA d s ≠ dN d) : PCs S (dPut d K w A B Sp La Y Z P nm cn o) s L σ := by
  have n1 : ¬ s = dN d := by omega
  have n2 : ¬ dA d s = dN d := by omega
  unfold PCs at h ⊢
  simp only [dp_K, dp_W, dp_A, dp_B, dp_S, dp_L, dp_Y, dp_Z, dp_P, dp_Nm, dp_Cn, dp_O, if_neg n1, if_neg n2]
  exact h
theorem PRsz.put {g z : Nat} {ρ : Zs} (h : PRsz g d s z ρ) (hs : s < dN d) (hA : dA d s ≠ dN d) : PRsz g (dPut d K w A B Sp La Y Z P nm cn o) s z ρ := by
  have n1 : ¬ s = dN d := by omega
  have n2 : ¬ dA d s = dN d := by omega
  unfold PRsz at h ⊢
  simp only [dp_K, dp_W, dp_A, dp_B, dp_S, dp_L, dp_Y, dp_Z, dp_P, dp_Nm, dp_Cn, dp_O, if_neg n1, if_neg n2]
  exact h
theorem WFs.put (h : WFs d s) (hs : s < dN d) (hA : dA d s ≠ dN d) (hB : dB d s ≠ dN d) : WFs (dPut d K w A B Sp La Y Z P nm cn o) s := by
  have n1 : ¬ s = dN d := by omega
  have n2 : ¬ dA d s = dN d := by omega
  have n3 : ¬ dB d s = dN d := by omega
  unfold WFs at h ⊢
  simp only [dp_K, dp_W, dp_A, dp_B, dp_S, dp_L, dp_Y, dp_Z, dp_P, dp_Nm, dp_Cn, dp_O, if_neg n1, if_neg n2, if_neg n3]
  exact h
theorem PCc.put {S L : Nat} {σ : Zs} (h : PCc S d c L σ) (h12 : dN d < 12) : PCc S (dPut d K w A B Sp La Y Z P nm cn o) c L σ := by
  unfold PCc at h ⊢
  rw [dp_CS, dp_CF, dp_CO h12]
  exact h
theorem PRcz.put {g z : Nat} {ρ : Zs} (h : PRcz g d c z ρ) (h12 : dN d < 12) : PRcz g (dPut d K w A B Sp La Y Z P nm cn o) c z ρ := by
  unfold PRcz at h ⊢
  rw [dp_CS, dp_CF, dp_CO h12]
  exact h
end DP
/-- between items: what both have of the program -/
def CDis (d : Pd) : Prop := ∀ s, s < dN d → ∀ c e, c < dW d s → e < dW d s → dCn d s c = dCn d s e → c = e
def InN (d : Pd) : Prop := ∀ s, s < dN d → (dA d s < dN d ∨ 50 ≤ dA d s) ∧ (dB d s < dN d ∨ 50 ≤ dB d s)
def OLD (x : Cx) (d : Pd) (L z : Nat) (σ ρ : Zs) : Prop := zI σ 321 (qS x) 0 0 = nI (dN d) ∧ zI σ 323 (qS x) 0 0 = nI (dM d) ∧ zI ρ 768 (qG x) 0 0 = nI (dN d) ∧ zI ρ 781 (qG x) 0 0 = nI (dM d) ∧ (∀ s, s < dN d → PCs (qS x) d s L σ) ∧ (∀ c, c < dM d → PCc (qS x) d c L σ) ∧ (∀ s, s < dN d → PRsz (qG x) d s z ρ) ∧ ∀ c, c < dM d → PRcz (qG x) d c z ρ
def GoodD (d : Pd) : Prop := WFd d ∧ NmOk d ∧ CDis d ∧ InN d
def MIx (x : Cx) (d : Pd) (t : Nat) (σ ρ : Zs) : Prop := zI σ 192 0 0 0 = 0 ∧ GoodD d ∧ ∃ L z, L ≤ t ∧ z ≤ 2 * t ∧ zI σ 326 (qS x) 0 0 = nI L ∧ zI ρ 785 (qG x) 0 0 = nI z ∧ OLD x d L z σ ρ
/-- in the first reading the law's program stays empty -/
def M0 (x : Cx) (ρ : Zs) : Prop := zI ρ 768 (qG x) 0 0 = nI 0 ∧ zI ρ 781 (qG x) 0 0 = nI 0 ∧ zI ρ 1795 (qG x) 0 0 = nI 0
def ITm (x : Cx) (d : Pd) (t : Nat) (σ ρ : Zs) : Prop := St0 (qS x) (qC x) σ ∧ LFr x ρ ∧ PSt x t σ ρ ∧ zI ρ 908 0 0 0 = -nI 1 ∧ zI ρ 907 0 0 0 = nI 0 ∧ (qM x = 0 → M0 x ρ) ∧ (qM x = 1 → MIx x d t σ ρ)
theorem OLD.fr {x : Cx} {d : Pd} {L z L2 z2 : Nat} {σ0 σ ρ0 ρ : Zs} (h : OLD x d L z σ0 ρ0) (a : IFC (qS x) (dN d) (dM d) L σ0 σ) (b : IFL (qG x) (dN d) z ρ0 ρ) (hL : L ≤ L2) (hz : z ≤ z2) : OLD x d L2 z2 σ ρ := by
  obtain ⟨h1, h2, h3, h4, h5, h6, h7, h8⟩ := h
  refine ⟨((a.1 321 _ 0 (wI_n rfl rfl (Or.inr rfl) (Or.inr rfl)) 0).1).trans h1, ((a.1 323 _ 0 (wI_n rfl rfl (Or.inr rfl) (Or.inr rfl)) 0).1).trans h2, ((b.1 768 _ 0 0 (wJ_n rfl rfl (Or.inr rfl))).1).trans h3, ((b.1 781 _ 0 0 (wJ_n rfl rfl (Or.inr rfl))).1).trans h4, fun s hs => (h5 s hs).fr a (by omega) hL, fun c hc => (h6 c hc).fr a (by omega) hL, fun s hs => (h7 s hs).fr b (by omega) hz, fun c hc => (h8 c hc).fr b hz⟩
