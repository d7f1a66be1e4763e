/-! COMPILE: what it leaves alone -/
def lT : List Nat := [580, 1600, 1601, 1602, 705, 712]
def lU : List Nat := [64, 513, 707, 708, 709, 718]
def lX : List Nat := [905, 907, 908, 910, 911, 1936, 1937, 1938, 896, 901, 1926, 1927, 1928, 909, 915, 906, 900]
def lY : List Nat := [950, 1975, 1976, 1977, 1978, 898, 946]
def nC (c : Nat) : Bool := !lT.contains c && (![258, 259, 260, 261, 262, 263, 192, 193, 194, 195, 196, 197, 198, 199, 201, 202, 203, 204, 205, 1224].contains c && ![0, 1, 2, 3, 321, 323, 326, 448, 449, 450, 453, 454, 455, 456, 1348, 1349, 1475, 1476, 1481, 1482, 1483].contains c)
def nR (c : Nat) : Bool := !lX.contains c && !isP c
def S3 (σ σ' : Zs) (c q s i : Nat) : Prop := zI σ' c q s i = zI σ c q s i ∧ zJ σ' c q s i = zJ σ c q s i ∧ zR σ' c q s i = zR σ c q s i
def FrC (S : Nat) (σ σ' : Zs) : Prop := ∀ c q, lT.contains c = false → wK S c q = false → ∀ s i, S3 σ σ' c q s i
def FrR (g : Nat) (ρ ρ' : Zs) : Prop := ∀ c q, lX.contains c = false → (isP c = false ∨ q ≠ g) → ∀ s i, S3 ρ ρ' c q s i
def EqC (ex : List Nat) (σ σ' : Zs) : Prop := ∀ c, nC c = true → ex.contains c = false → ∀ q s i, S3 σ σ' c q s i
def EqR (ex : List Nat) (ρ ρ' : Zs) : Prop := ∀ c, nR c = true → ex.contains c = false → ∀ q s i, S3 ρ ρ' c q s i
section FQ
variable {S g P L Q : Nat} {d : Pd} {X : Nat → Nat → Nat} {σ σ' σ2 ρ ρ' ρ2 σ0 ρ0 : Zs} {τ : Prop} {c q s i : Nat}
theorem S3.rf : S3 σ σ c q s i := ⟨rfl, rfl, rfl⟩
theorem S3.tr (h : S3 σ σ2 c q s i) (k : S3 σ2 σ' c q s i) : S3 σ σ' c q s i := ⟨k.1.trans h.1, k.2.1.trans h.2.1, k.2.2.trans h.2.2⟩
theorem FrC.tr (h : FrC S σ σ2) (k : FrC S σ2 σ') : FrC S σ σ' := fun c q h1 h2 s i => (h c q h1 h2 s i).tr (k c q h1 h2 s i)
theorem FrR.tr (h : FrR g ρ ρ2) (k : FrR g ρ2 ρ') : FrR g ρ ρ' := fun c q h1 h2 s i => (h c q h1 h2 s i).tr (k c q h1 h2 s i)
theorem FrC.I (h : FrC S σ σ2) {v : Int32} (hw : lT.contains c = true ∨ wK S c q = true) : FrC S σ (sI σ2 c q s i v) := fun c' q' h1 h2 s' i' => by
  refine (h c' q' h1 h2 s' i').tr ⟨?_, rfl, rfl⟩
  rw [zI_sI, if_neg]
  rintro ⟨rfl, rfl, _⟩
  rcases hw with w | w
  · rw [w] at h1; cases h1
  · rw [w] at h2; cases h2
theorem FrC.R (h : FrC S σ σ2) {v : Nat × Nat} (hw : lT.contains c = true ∨ wK S c q = true) : FrC S σ (sR σ2 c q s i v) := fun c' q' h1 h2 s' i' => by
  refine (h c' q' h1 h2 s' i').tr ⟨rfl, rfl, ?_⟩
  rw [zR_sR, if_neg]
  rintro ⟨rfl, rfl, _⟩
  rcases hw with w | w
  · rw [w] at h1; cases h1
  · rw [w] at h2; cases h2
theorem FrC.rf : FrC S σ σ := fun _ _ _ _ _ _ => S3.rf
theorem FrR.rf : FrR g ρ ρ := fun _ _ _ _ _ _ => S3.rf
theorem FrR.I (h : FrR g ρ ρ2) {v : Int32} (hw : lX.contains c = true) : FrR g ρ (sI ρ2 c q s i v) := fun c' q' h1 h2 s' i' => by
  refine (h c' q' h1 h2 s' i').tr ⟨?_, rfl, rfl⟩
  rw [zI_sI, if_neg]
  rintro ⟨rfl, rfl, _⟩
  rw [hw] at h1; cases h1
theorem FrR.R (h : FrR g ρ ρ2) {v : Nat × Nat} (hw : lX.contains c = true) : FrR g ρ (sR ρ2 c q s i v) := fun c' q' h1 h2 s' i' => by
  refine (h c' q' h1 h2 s' i').tr ⟨rfl, rfl, ?_⟩
  rw [zR_sR, if_neg]
  rintro ⟨rfl, rfl, _⟩
  rw [hw] at h1; cases h1
theorem TFC.frC (h : TFC σ σ') : FrC S σ σ' := fun c q h1 _ s i => h c (by
  simp only [lT, tC, List.contains_cons, List.contains_nil, Bool.or_false, Bool.or_eq_false_iff, beq_eq_false_iff_ne] at h1 ⊢
  exact ⟨h1.1, h1.2.1, h1.2.2.1, h1.2.2.2.1⟩) q s i
theorem TFR.frR (h : TFR ρ ρ') : FrR g ρ ρ' := fun c q h1 _ s i => h c (by
  simp only [lX, tR, List.contains_cons, List.contains_nil, Bool.or_false, Bool.or_eq_false_iff, beq_eq_false_iff_ne] at h1 ⊢
  omega) q s i
theorem CFr.frC (h : CFr S σ σ') : FrC S σ σ' := fun c q _ h2 s i => h c q h2 s i
theorem zP_o {g' : Nat} (h : isP c = false ∨ q ≠ g') : S3 ρ (zP ρ g') c q s i := by
  have hn : ¬ (isP c = true ∧ q = g' ∧ s = 0) := by
    rintro ⟨h1, h2, _⟩
    rcases h with k | k
    · rw [h1] at k; cases k
    · exact k h2
  exact ⟨if_neg hn, if_neg hn, rfl⟩
theorem wl_isP {c : Nat} (h : [768, 781, 785, 1793, 1794, 1795, 1796, 1797, 1798, 1799, 1800, 1801, 1802, 1803, 1804, 1806, 1807, 1808, 1810, 1811].contains c = true) : isP c = true := by
  simp only [List.contains_cons, List.contains_nil, Bool.or_false, Bool.or_eq_true, beq_iff_eq] at h
  unfold isP
  simp only [Bool.or_eq_true, Bool.and_eq_true, decide_eq_true_eq]
  omega
theorem LQ.frR (h : LQ g ρ ρ') : FrR g ρ ρ' := fun c q h1 h2 s i => by
  refine h c q ?_ ?_ s i
  · rintro rfl; cases h1
  · have a1 : [905, 907, 908, 910, 911, 1936, 1937, 1938].contains c = false := by
      simp only [lX, List.contains_cons, List.contains_nil, Bool.or_false, Bool.or_eq_false_iff, beq_eq_false_iff_ne] at h1 ⊢
      omega
    have a2 : (decide (q = g) && [768, 781, 785, 1793, 1794, 1795, 1796, 1797, 1798, 1799, 1800, 1801, 1802, 1803, 1804, 1806, 1807, 1808, 1810, 1811].contains c) = false := by
      rcases h2 with k | k
      · cases e : [768, 781, 785, 1793, 1794, 1795, 1796, 1797, 1798, 1799, 1800, 1801, 1802, 1803, 1804, 1806, 1807, 1808, 1810, 1811].contains c with
        | true => rw [wl_isP e] at k; cases k
        | false => simp
      · rw [decide_eq_false k]; rfl
    unfold wL
    rw [a1, a2]
    simp
theorem frR_cmZ (hg : cmG ρ = g) : FrR g ρ (cmZ ρ) := by
  unfold cmZ
  rw [hg]
  exact FrR.I (FrR.I (FrR.R (fun c q _ h2 s i => zP_o h2) rfl) rfl) rfl
theorem FrC.eq (h : FrC S σ σ') : EqC [] σ σ' := fun c hc _ q s i => by
  unfold nC at hc
  simp only [Bool.and_eq_true, Bool.not_eq_true'] at hc
  exact h c q hc.1 (wKn hc.2.1 hc.2.2) s i
theorem FrR.eq (h : FrR g ρ ρ') : EqR [] ρ ρ' := fun c hc _ q s i => by
  unfold nR at hc
  simp only [Bool.and_eq_true, Bool.not_eq_true'] at hc
  exact h c q hc.1 (Or.inl hc.2) s i
theorem EqC.up (h : EqC [] σ σ') : EqC lU σ σ' := fun c hc _ => h c hc rfl
theorem EqR.up (h : EqR [] ρ ρ') : EqR lY ρ ρ' := fun c hc _ => h c hc rfl
theorem ER.eq (h : ER P d σ0 ρ0 τ X σ ρ) (f : EqC [] σ σ') (k : EqR [] ρ ρ') : ER P d σ' ρ' False X σ' ρ' := by
  refine ⟨False.elim, EFC.rf, EFR.rf, ?_⟩
  obtain ⟨_, _, _, h1, h2, h3, h4, h5, h6, h7⟩ := h
  refine ⟨?_, ?_, ?_, ?_, ?_, ?_, ?_⟩
  · unfold ETab at h1 ⊢
    simp only [(f 512 rfl rfl _ _ _).1, (f 513 rfl rfl _ _ _).1, (k 1941 rfl rfl _ _ _).1, (f 1538 rfl rfl _ _ _).1, (k 1940 rfl rfl _ _ _).2.1, (f 1539 rfl rfl _ _ _).2.1]
    exact h1
  · unfold ESeen at h2 ⊢
    simp only [(f 461 rfl rfl _ _ _).1, (k 1942 rfl rfl _ _ _).1, (f 1486 rfl rfl _ _ _).1, (k 1943 rfl rfl _ _ _).1, (k 1944 rfl rfl _ _ _).1]
    exact h2
  · unfold EWin EW1 EWt at h3 ⊢
    simp only [(f 640 rfl rfl _ _ _).1, (k 1958 rfl rfl _ _ _).1, (f 1665 rfl rfl _ _ _).2.1, (k 1959 rfl rfl _ _ _).2.1, (f 1666 rfl rfl _ _ _).1, (k 1960 rfl rfl _ _ _).1, (f 1667 rfl rfl _ _ _).1, (k 1961 rfl rfl _ _ _).1, (f 1668 rfl rfl _ _ _).1, (k 1963 rfl rfl _ _ _).1, (f 1669 rfl rfl _ _ _).2.1, (k 1962 rfl rfl _ _ _).2.1]
    exact h3
  · unfold EHeld EH1 at h4 ⊢
    simp only [(f 66 rfl rfl _ _ _).1, (k 923 rfl rfl _ _ _).1, (f 1089 rfl rfl _ _ _).2.2, (f 387 rfl rfl _ _ _).1, (k 1948 rfl rfl _ _ _).1, (f 384 rfl rfl _ _ _).1, (k 1950 rfl rfl _ _ _).2.1, (f 385 rfl rfl _ _ _).1, (f 1410 rfl rfl _ _ _).2.1, (f 388 rfl rfl _ _ _).1, (k 1949 rfl rfl _ _ _).1]
    exact h4
  · unfold EChk at h5 ⊢
    simp only [(f 4 rfl rfl _ _ _).1, (k 1951 rfl rfl _ _ _).1]
    exact h5
  · unfold EScal at h6 ⊢
    simp only [(f 67 rfl rfl _ _ _).1, (k 928 rfl rfl _ _ _).1, (f 68 rfl rfl _ _ _).1, (k 929 rfl rfl _ _ _).1, (f 69 rfl rfl _ _ _).1, (k 931 rfl rfl _ _ _).1]
    exact h6
  · unfold EGiv at h7 ⊢
    simp only [(k 1946 rfl rfl _ _ _).1, (f 1487 rfl rfl _ _ _).1, (k 1945 rfl rfl _ _ _).2.1, (k 1940 rfl rfl _ _ _).2.1]
    exact h7
theorem RLog.eq (h : RLog L σ ρ) (f : EqC lU σ σ') (k : EqR lY ρ ρ') : RLog L σ' ρ' := by
  unfold RLog Ent EntP at h ⊢
  simp only [(f 716 rfl rfl _ _ _).1, (k 940 rfl rfl _ _ _).1, (f 128 rfl rfl _ _ _).1, (k 1965 rfl rfl _ _ _).1, (f 129 rfl rfl _ _ _).2.1, (k 1968 rfl rfl _ _ _).2.1, (f 384 rfl rfl _ _ _).1, (k 1966 rfl rfl _ _ _).1, (f 385 rfl rfl _ _ _).1, (k 1967 rfl rfl _ _ _).1, (f 1410 rfl rfl _ _ _).2.1, (k 1969 rfl rfl _ _ _).2.1, (f 131 rfl rfl _ _ _).1]
  exact h
theorem RMark.eq (h : RMark L σ ρ) (f : EqC [] σ σ') (k : EqR [] ρ ρ') : RMark L σ' ρ' := by
  unfold RMark at h ⊢
  simp only [(f 718 rfl rfl _ _ _).1, (k 946 rfl rfl _ _ _).1, (f 1741 rfl rfl _ _ _).1, (k 1971 rfl rfl _ _ _).1]
  exact h
theorem RVal.eq (h : RVal σ ρ) (f : EqC lU σ σ') (k : EqR lY ρ ρ') : RVal σ' ρ' := by
  unfold RVal at h ⊢
  simp only [(f 385 rfl rfl _ _ _).1, (k 948 rfl rfl _ _ _).1, (f 1410 rfl rfl _ _ _).2.1, (k 1973 rfl rfl _ _ _).2.1]
  exact h
theorem RKey.eq (h : RKey σ ρ) (f : EqC lU σ σ') (k : EqR lY ρ ρ') : RKey σ' ρ' := by
  unfold RKey at h ⊢
  simp only [(f 1603 rfl rfl _ _ _).2.1, (k 1921 rfl rfl _ _ _).2.1]
  exact h
theorem ROld.eq (h : ROld Q σ ρ) (f : EqC [] σ σ') (k : EqR [] ρ ρ') (fQ : ∀ s i, zI σ' 321 Q s i = zI σ 321 Q s i ∧ zJ σ' 448 Q s i = zJ σ 448 Q s i) : ROld Q σ' ρ' := by
  unfold ROld ROld1 at h ⊢
  simp only [(fQ _ _).1, (fQ _ _).2, (k 950 rfl rfl _ _ _).1, (k 1975 rfl rfl _ _ _).2.1, (f 513 rfl rfl _ _ _).1, (k 1976 rfl rfl _ _ _).1, (f 512 rfl rfl _ _ _).1, (k 1977 rfl rfl _ _ _).1, (f 1538 rfl rfl _ _ _).1, (k 1978 rfl rfl _ _ _).2.1, (f 1539 rfl rfl _ _ _).2.1]
  exact h
theorem nS {c P : Nat} (h : P ≠ S) (h1 : [258, 259, 260, 261, 262, 263, 192, 193, 194, 195, 196, 197, 198, 199, 201, 202, 203, 204, 205, 1224].contains c = false) : wK S c P = false := by
  unfold wK
  rw [h1, decide_eq_false h]
  simp
theorem sC0_x {c : Nat} (h : sC0 c = true) : lT.contains c = false ∧ [258, 259, 260, 261, 262, 263, 192, 193, 194, 195, 196, 197, 198, 199, 201, 202, 203, 204, 205, 1224].contains c = false := by
  have : c ∈ [321, 323, 326, 448, 449, 450, 1475, 1476, 453, 454, 455, 456, 1483, 1481, 1482, 0, 1, 2, 3, 1348, 1349] := by simpa [sC0] using h
  simp only [List.mem_cons, List.not_mem_nil, or_false] at this
  rcases this with rfl | rfl | rfl | rfl | rfl | rfl | rfl | rfl | rfl | rfl | rfl | rfl | rfl | rfl | rfl | rfl | rfl | rfl | rfl | rfl | rfl <;> exact ⟨rfl, rfl⟩
theorem sR0_x {c : Nat} (h : sR0 c = true) : lX.contains c = false := by
  have : c ∈ [768, 781, 1793, 1794, 1795, 1796, 1797, 1798, 1799, 1800, 1801, 1802, 1803, 1804, 1806, 1807, 1808, 1810, 1811] := by simpa [sR0] using h
  simp only [List.mem_cons, List.not_mem_nil, or_false] at this
  rcases this with rfl | rfl | rfl | rfl | rfl | rfl | rfl | rfl | rfl | rfl | rfl | rfl | rfl | rfl | rfl | rfl | rfl | rfl | rfl <;> rfl
theorem PC.frC (h : PC P d σ) (f : FrC S σ σ') (hP : P ≠ S) : PC P d σ' := h.fr fun c hc s i => by
  obtain ⟨a, b⟩ := sC0_x hc
  have := f c P a (nS hP b) s i
  exact ⟨this.1, this.2.1⟩
theorem PR.frR {g' : Nat} (h : PR g d ρ) (f : FrR g' ρ ρ') (hg : g ≠ g') : PR g d ρ' := h.fr fun c hc s i => by
  have := f c g (sR0_x hc) (Or.inr hg) s i
  exact ⟨this.1, this.2.1⟩
/-- nothing new: both stand as before, the tapes are empty -/
theorem rl_fail {B : Nat} (h : Rl B P Q S g L d X σ ρ) (f : FrC S σ σ') (k : FrR (1 - g) ρ ρ') (h705 : zI σ' 705 0 0 0 = nI 0) (h900 : zI ρ' 900 0 0 0 = nI 0) (h712 : zI σ' 712 0 0 0 = zI ρ' 915 0 0 0) (hS : San0 σ') : Rl 0 P Q S g L d X σ' ρ' := by
  obtain ⟨hp, ⟨hW, hPC, hPR, hz, hz3, hP⟩, hE, hG, hF, hNm, ⟨r1, r2, r3⟩, hL, hM, hV, hT, hO, hK, h12⟩ := h
  obtain ⟨p1, p2, p3, p4, p5, p6, p7⟩ := hp
  have fe := f.eq
  have ke := k.eq
  obtain ⟨T, b, _⟩ := hT
  refine ⟨⟨p1, p2, p3, p4, p5, p6, p7⟩, ⟨hW, hPC.frC f p5, hPR.frR k (by omega), ?_, ?_, hP⟩, hE.eq fe ke, hG, hF, hNm, ⟨?_, ?_, ?_⟩, hL.eq fe.up ke.up, hM.eq fe ke, hV.eq fe.up ke.up, ⟨0, b, ⟨Nat.le_refl _, Nat.zero_le _⟩, h705, h900, fun i hi => absurd hi (Nat.not_lt_zero _)⟩, hO.eq fe ke (fun s i => ?_), hK.eq fe.up ke.up, h712, hS⟩
  · exact ((fe 64 rfl rfl 0 0 0).2.2).trans hz
  · exact ((ke 898 rfl rfl 0 0 0).2.2).trans hz3
  · exact ((fe 707 rfl rfl 0 0 0).2.2).trans r1
  · exact ((fe 708 rfl rfl 0 0 0).2.2).trans r2
  · exact ((fe 709 rfl rfl 0 0 0).2.2).trans r3
  · exact ⟨(f 321 Q rfl (nS p6 rfl) s i).1, (f 448 Q rfl (nS p6 rfl) s i).2.1⟩
end FQ
