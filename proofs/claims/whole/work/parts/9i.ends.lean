/-! ITEMS, both: where a stream begins, where it ends -/
def ssC (σ : Zs) (S n : Nat) : Zs := sI (sI (sI (sI (sI (sI (sI (sI (sR (sI σ 197 0 0 0 0) 195 0 0 0 (S, n)) 449 S n 0 0) 1476 S n 0 (-1)) 1476 S n 1 (-1)) 453 S n 0 0) 454 S n 0 0) 455 S n 0 0) 456 S n 0 0) 201 0 0 0 0
section SE
variable {x : Cx} {b t : Nat} {σ ρ : Zs} {d : Pd}
theorem s_start (hc : Cok x) (h : ITm x d t σ ρ) : ∃ σ1, fX3_startStream (nI (qp x t)) σ = some ((), σ1) ∧ St (qS x) 0 (qC x) σ1 ∧ MF σ σ1 ∧ (qM x = 1 → (dN d < 12 ∧ σ1 = ssC σ (qS x) (dN d)) ∨ (¬ dN d < 12 ∧ Ew x (4, nI (qp x t)) σ1)) := by
  obtain ⟨h1, h2, h3, h4, h5, h6, h7⟩ := h
  obtain ⟨⟨⟩, σ1, e1, k1⟩ := wp_ex (k_startStream h1 (y := nI (qp x t)))
  refine ⟨σ1, e1, k1, mf_X3_startStream MF.rf _ _ e1, fun m => ?_⟩
  obtain ⟨g1, ⟨gW, _⟩, L, z, g2, g3, g4, g5, g6, _⟩ := h7 m
  have e4 : (zR (sI σ 197 0 0 0 0) 194 0 0 0).1 = qS x := by show (zR σ 194 0 0 0).1 = qS x; rw [h1.1.1]
  have e3 : zI (sI σ 197 0 0 0 0) 321 (qS x) 0 0 = nI (dN d) := g6
  have i12 : (12 : Int32) = nI 12 := rfl
  have hN := gW.1
  unfold fX3_startStream at e1
  rw [if_pos g1, lt_k, e4, e3, i12] at e1
  by_cases q : dN d < 12
  · refine Or.inl ⟨q, ?_⟩
    have e5 : (zR (sR (sI σ 197 0 0 0 0) 195 0 0 0 (qS x, dN d)) 195 0 0 0) = (qS x, dN d) := rfl
    have g2' : gi 0 2 := by decide
    have g3' : gi 1 2 := by decide
    rw [if_pos ((n_lt (by omega) (by omega)).mpr q), if_pos ((n_gi (by omega)).mpr q), n_cl (by omega), lt_k, e5] at e1
    unfold fX7_clear at e1
    rw [lt_k, if_pos g2', lt_k, if_pos g3', lt_k, lt_k, lt_k, lt_k, lt_k, bq_s, lt_k] at e1
    cases e1
    rfl
  · refine Or.inr ⟨q, Or.inr ⟨m, (show ¬ (4 : Int32) = 1 by decide), ?_⟩⟩
    rw [if_neg (fun z => q ((n_lt (by omega) (by omega)).mp z))] at e1
    unfold fX3_report at e1
    have k2 : zI (sI σ 197 0 0 0 0) 192 0 0 0 = 0 := g1
    rw [if_pos k2, lt_k, lt_k, bq_s] at e1
    cases e1
    exact ⟨rfl, rfl, (show ¬ (4 : Int32) = 0 by decide)⟩
/-- within a stream -/
def SIx (x : Cx) (d : Pd) (L z : Nat) (σb ρb : Zs) (t : Nat) (σ ρ : Zs) : Prop := zI σ 192 0 0 0 = 0 ∧ zI σ 197 0 0 0 = 0 ∧ zR σ 195 0 0 0 = (qS x, dN d) ∧ IFC (qS x) (dN d) (dM d) L σb σ ∧ IFL (qG x) (dN d) z ρb ρ ∧ ∃ L' z', L ≤ L' ∧ z ≤ z' ∧ L' ≤ t ∧ z' ≤ 2 * t ∧ zI σ 326 (qS x) 0 0 = nI L' ∧ zI ρ 785 (qG x) 0 0 = nI z'
theorem SIx.start {L z : Nat} (g1 : zI σ 192 0 0 0 = 0) (g2 : L ≤ t) (g3 : z ≤ 2 * t) (g4 : zI σ 326 (qS x) 0 0 = nI L) (g5 : zI ρ 785 (qG x) 0 0 = nI z) : SIx x d L z σ ρ t (ssC σ (qS x) (dN d)) ρ := by
  refine ⟨g1, rfl, rfl, ?_, IFL.rf, L, z, Nat.le_refl _, Nat.le_refl _, g2, g3, g4, g5⟩
  unfold ssC
  have f0 : IFC (qS x) (dN d) (dM d) L σ σ := IFC.rf
  exact (((((((((f0.I (wI_0 rfl) (fun z => by cases z)).R (wI_0 rfl)).I (wI_S rfl) (fun z => by cases z)).I (wI_S rfl) (fun z => by cases z)).I (wI_S rfl) (fun z => by cases z)).I (wI_S rfl) (fun z => by cases z)).I (wI_S rfl) (fun z => by cases z)).I (wI_S rfl) (fun z => by cases z)).I (wI_S rfl) (fun z => by cases z)).I (wI_0 rfl) (fun z => by cases z)
theorem IFC.av {S n k L t : Nat} {σ0 : Zs} {a p : Int32} {w : Int64} (h : IFC S n k L σ0 σ) : IFC S n k L σ0 (avC σ t a p w) := (((h.I (wI_0 rfl) (fun z => by cases z)).I (wI_0 rfl) (fun z => by cases z)).I (wI_0 rfl) (fun z => by cases z)).J (wI_0 rfl) (fun z => by cases z)
theorem SIx.av {L z t2 : Nat} {σb ρb : Zs} {a p : Int32} {w : Int64} {v : Int32} (h : SIx x d L z σb ρb t σ ρ) (ht : t ≤ t2) : SIx x d L z σb ρb t2 (avC σ t a p w) (sI ρ 905 0 0 0 v) := by
  obtain ⟨h1, h2, h3, h4, h5, L', z', h6, h7, h8, h9, h10, h11⟩ := h
  exact ⟨h1, h2, h3, h4.av, h5.I (wJ_0 rfl) (fun z => by cases z), L', z', h6, h7, by omega, by omega, h10, h11⟩
/-- a cell of the class's is written -/
theorem SIx.cI {L z c q s i : Nat} {σb ρb : Zs} {v : Int32} (h : SIx x d L z σb ρb t σ ρ) (hw : wI (qS x) (dN d) (dM d) c q s = true) (hn : c ≠ 326 ∧ c ≠ 1348 ∧ c ≠ 192 ∧ c ≠ 197) : SIx x d L z σb ρb t (sI σ c q s i v) ρ := by
  obtain ⟨h1, h2, h3, h4, h5, L', z', h6, h7, h8, h9, h10, h11⟩ := h
  exact ⟨by rw [sI_o (fun q => hn.2.2.1 q.symm)]; exact h1, by rw [sI_o (fun q => hn.2.2.2 q.symm)]; exact h2, h3, h4.I hw (fun z => absurd z hn.2.1), h5, L', z', h6, h7, h8, h9, by rw [sI_o (fun q => hn.1 q.symm)]; exact h10, h11⟩
theorem SIx.cJ {L z c q s i : Nat} {σb ρb : Zs} {v : Int64} (h : SIx x d L z σb ρb t σ ρ) (hw : wI (qS x) (dN d) (dM d) c q s = true) (hn : c ≠ 1349) : SIx x d L z σb ρb t (sJ σ c q s i v) ρ := by
  obtain ⟨h1, h2, h3, h4, h5, L', z', h6⟩ := h
  exact ⟨h1, h2, h3, h4.J hw (fun z => absurd z hn), h5, L', z', h6⟩
theorem SIx.cR {L z c q s i : Nat} {σb ρb : Zs} {v : Nat × Nat} (h : SIx x d L z σb ρb t σ ρ) (hw : wI (qS x) (dN d) (dM d) c q s = true) (hn : c ≠ 195) : SIx x d L z σb ρb t (sR σ c q s i v) ρ := by
  obtain ⟨h1, h2, h3, h4, h5, L', z', h6⟩ := h
  exact ⟨h1, h2, by rw [zR_sR, if_neg (fun q => hn q.1.symm)]; exact h3, h4.R hw, h5, L', z', h6⟩
theorem SIx.lI {L z c q s i : Nat} {σb ρb : Zs} {v : Int32} (h : SIx x d L z σb ρb t σ ρ) (hw : wJ (qG x) (dN d) c q i = true) (hn : c ≠ 785 ∧ c ≠ 1810) : SIx x d L z σb ρb t σ (sI ρ c q s i v) := by
  obtain ⟨h1, h2, h3, h4, h5, L', z', h6, h7, h8, h9, h10, h11⟩ := h
  exact ⟨h1, h2, h3, h4, h5.I hw (fun z => absurd z hn.2), L', z', h6, h7, h8, h9, h10, by rw [sI_c (fun q => hn.1 q.symm)]; exact h11⟩
theorem SIx.lJ {L z c q s i : Nat} {σb ρb : Zs} {v : Int64} (h : SIx x d L z σb ρb t σ ρ) (hw : wJ (qG x) (dN d) c q i = true) (hn : c ≠ 1811) : SIx x d L z σb ρb t σ (sJ ρ c q s i v) := by
  obtain ⟨h1, h2, h3, h4, h5, h6⟩ := h
  exact ⟨h1, h2, h3, h4, h5.J hw (fun z => absurd z hn), h6⟩
/-- what the end of a stream writes: the class's -/
theorem s_endC {S n w N : Nat} (h1 : zI σ 192 0 0 0 = 0) (h2 : zI σ 201 0 0 0 = nI w) (h3 : zR σ 195 0 0 0 = (S, n)) (h4 : zR σ 194 0 0 0 = (S, 0)) (h5 : zI σ 321 S 0 0 = nI N) (hw : w ≤ 6) : ∃ σ', fX3_endStream_63 σ = some ((), σ') ∧ (∀ c q s i, ¬ (c = 450 ∧ q = S ∧ s = n) → ¬ (c = 321 ∧ q = S ∧ s = 0) → zI σ' c q s i = zI σ c q s i) ∧ (∀ c q s i, ¬ (c = 1475 ∧ q = S ∧ s = n) → zJ σ' c q s i = zJ σ c q s i) ∧ zR σ' = zR σ ∧ zI σ' 450 S n 0 = nI w ∧ zI σ' 321 S 0 0 = nI (N + 1) ∧ ∀ c, c < w → zJ σ' 1475 S n c = zJ σ 1224 0 0 c := by
  have l : ∀ (k y n9 : Nat) (z : Zs), y + k = w → k < n9 → (∀ c q s i, zI z c q s i = zI σ c q s i) → (∀ c q s i, ¬ (c = 1475 ∧ q = S ∧ s = n) → zJ z c q s i = zJ σ c q s i) → zR z = zR σ → (∀ c, c < y → zJ z 1475 S n c = zJ σ 1224 0 0 c) → ∃ z', fX7_setColumns_2 S n (nI w) n9 (nI y) z = some ((), sI z' 450 S n 0 (nI w)) ∧ (∀ c q s i, zI z' c q s i = zI σ c q s i) ∧ (∀ c q s i, ¬ (c = 1475 ∧ q = S ∧ s = n) → zJ z' c q s i = zJ σ c q s i) ∧ zR z' = zR σ ∧ ∀ c, c < w → zJ z' 1475 S n c = zJ σ 1224 0 0 c := by
    intro k
    induction k with
    | zero =>
      intro y n9 z q1 q2 q3 q4 q5 q6
      obtain ⟨n9, rfl⟩ : ∃ j, n9 = j + 1 := ⟨n9 - 1, by omega⟩
      refine ⟨z, ?_, q3, q4, q5, fun c hc => q6 c (by omega)⟩
      rw [fX7_setColumns_2, if_pos ((n_le (by omega) (by omega)).mpr (by omega)), lt_k]
    | succ k ih =>
      intro y n9 z q1 q2 q3 q4 q5 q6
      obtain ⟨n9, rfl⟩ : ∃ j, n9 = j + 1 := ⟨n9 - 1, by omega⟩
      rw [fX7_setColumns_2, if_neg (fun z => by have := (n_le (by omega) (by omega)).mp z; omega), i_1500, if_neg (fun z => by have := (n_le (by omega) (by omega)).mp z; omega), i_6, if_neg (fun z => by have := (n_le (by omega) (by omega)).mp z; omega), if_pos ((n_gi (by omega)).mpr (by omega)), if_pos ((n_gi (by omega)).mpr (by omega)), lt_k, n_cl (by omega), i_1, n_add]
      refine ih (y + 1) n9 _ (by omega) (by omega) q3 (fun c q s i hn => ?_) q5 (fun c hcc => ?_)
      · rw [zJ_sJ, if_neg (fun e => hn ⟨e.1, e.2.1, e.2.2.1⟩)]; exact q4 c q s i hn
      · rw [zJ_sJ]
        by_cases e : c = y
        · subst e
          rw [if_pos ⟨rfl, rfl, rfl, rfl⟩]; exact q4 1224 0 0 c (by omega)
        · rw [if_neg (fun z => e z.2.2.2)]; exact q6 c (by omega)
  obtain ⟨z', e1, e2, e3, e4, e5⟩ := l w 0 FU σ (by omega) (by unfold FU; omega) (fun _ _ _ _ => rfl) (fun _ _ _ _ _ => rfl) rfl (fun c hc => absurd hc (Nat.not_lt_zero _))
  have r1 : (zR σ 195 0 0 0).1 = S := by rw [h3]
  have r2 : (zR σ 195 0 0 0).2 = n := by rw [h3]
  have r4 : (zR (sI z' 450 S n 0 (nI w)) 194 0 0 0).1 = S := by show (zR z' 194 0 0 0).1 = S; rw [e4, h4]
  have r5 : zI (sI z' 450 S n 0 (nI w)) 321 S 0 0 = nI N := by rw [sI_c (by decide), e2]; exact h5
  refine ⟨sI (sI z' 450 S n 0 (nI w)) 321 S 0 0 (nI (N + 1)), ?_, fun c q s i n1 n2 => ?_, fun c q s i hn => e3 c q s i hn, e4, ?_, ?_, e5⟩
  · unfold fX3_endStream_63 fX3_endStream_88 fX7_setColumns
    rw [if_pos h1, h2, i_6, if_pos ((n_le (by omega) (by omega)).mpr hw), if_pos h1, r1, r2]
    rw [bq_e (show fX7_setColumns_2 S n (nI w) FU 0 σ = _ from e1), lt_k, r4, r5, i_1, n_add]
  · rw [zI_sI]
    by_cases q1 : c = 321 ∧ q = S ∧ s = 0 ∧ i = 0
    · exact absurd ⟨q1.1, q1.2.1, q1.2.2.1⟩ n2
    · rw [if_neg q1, zI_sI]
      by_cases q3 : c = 450 ∧ q = S ∧ s = n ∧ i = 0
      · exact absurd ⟨q3.1, q3.2.1, q3.2.2.1⟩ n1
      · rw [if_neg q3]; exact e2 c q s i
  · rw [sI_c (by decide), zI_sI, if_pos ⟨rfl, rfl, rfl, rfl⟩]
  · rw [zI_sI, if_pos ⟨rfl, rfl, rfl, rfl⟩]
/-- and the law's -/
theorem s_endL {g n w N : Nat} {nm : Int64} {p : Int32} (hm : zI ρ 906 0 0 0 = nI 1) (hg : zR ρ 909 0 0 0 = (g, 0)) (h2 : zI ρ 911 0 0 0 = nI w) (h5 : zI ρ 768 g 0 0 = nI N) (hn : n < 12) (hw : w ≤ 6) (hN : N < 100) : ∃ ρ', fX14_item_221 nm p (nI n) 1 ρ = some (.ok (), ρ') ∧ (∀ c q s i, ¬ (c = 1795 ∧ q = g ∧ s = 0 ∧ i = n) → ¬ (c = 768 ∧ q = g ∧ s = 0) → ¬ ((c = 1803 ∨ c = 1804) ∧ q = g ∧ s = 0 ∧ 6 * n ≤ i ∧ i < 6 * n + 6) → zI ρ' c q s i = zI ρ c q s i) ∧ (∀ c q s i, ¬ (c = 1793 ∧ q = g ∧ s = 0 ∧ i = n) → ¬ (c = 1796 ∧ q = g ∧ s = 0 ∧ 6 * n ≤ i ∧ i < 6 * n + 6) → zJ ρ' c q s i = zJ ρ c q s i) ∧ zR ρ' = zR ρ ∧ zI ρ' 1795 g 0 n = nI w ∧ zI ρ' 768 g 0 0 = nI (N + 1) ∧ zJ ρ' 1793 g 0 n = nm ∧ ∀ c, c < w → zJ ρ' 1796 g 0 (6 * n + c) = zJ ρ 1936 0 0 c ∧ zI ρ' 1803 g 0 (6 * n + c) = zI ρ 1937 0 0 c ∧ zI ρ' 1804 g 0 (6 * n + c) = zI ρ 1938 0 0 c := by
  obtain ⟨ρ0, hρ0⟩ : ∃ z, z = sI (sJ ρ 1793 g 0 n nm) 1795 g 0 n (nI w) := ⟨_, rfl⟩
  have l : ∀ (k y n9 : Nat) (z : Zs), y + k = w → k < n9 → zR z = zR ρ → (∀ c q s i, ¬ (c = 1795 ∧ q = g ∧ s = 0 ∧ i = n) → ¬ ((c = 1803 ∨ c = 1804) ∧ q = g ∧ s = 0 ∧ 6 * n ≤ i ∧ i < 6 * n + 6) → zI z c q s i = zI ρ c q s i) → (∀ c q s i, ¬ (c = 1793 ∧ q = g ∧ s = 0 ∧ i = n) → ¬ (c = 1796 ∧ q = g ∧ s = 0 ∧ 6 * n ≤ i ∧ i < 6 * n + 6) → zJ z c q s i = zJ ρ c q s i) → zI z 1795 g 0 n = nI w → zJ z 1793 g 0 n = nm → (∀ c, c < y → zJ z 1796 g 0 (6 * n + c) = zJ ρ 1936 0 0 c ∧ zI z 1803 g 0 (6 * n + c) = zI ρ 1937 0 0 c ∧ zI z 1804 g 0 (6 * n + c) = zI ρ 1938 0 0 c) →
      ∃ z', fX14_item_263 n9 (nI n) (nI y) z = some (.ok (), sI z' 768 g 0 0 (nI (N + 1))) ∧ zR z' = zR ρ ∧ (∀ c q s i, ¬ (c = 1795 ∧ q = g ∧ s = 0 ∧ i = n) → ¬ ((c = 1803 ∨ c = 1804) ∧ q = g ∧ s = 0 ∧ 6 * n ≤ i ∧ i < 6 * n + 6) → zI z' c q s i = zI ρ c q s i) ∧ (∀ c q s i, ¬ (c = 1793 ∧ q = g ∧ s = 0 ∧ i = n) → ¬ (c = 1796 ∧ q = g ∧ s = 0 ∧ 6 * n ≤ i ∧ i < 6 * n + 6) → zJ z' c q s i = zJ ρ c q s i) ∧ zI z' 1795 g 0 n = nI w ∧ zJ z' 1793 g 0 n = nm ∧ ∀ c, c < w → zJ z' 1796 g 0 (6 * n + c) = zJ ρ 1936 0 0 c ∧ zI z' 1803 g 0 (6 * n + c) = zI ρ 1937 0 0 c ∧ zI z' 1804 g 0 (6 * n + c) = zI ρ 1938 0 0 c := by
    intro k
    induction k with
    | zero =>
      intro y n9 z q1 q2 q3 q4 q5 q6 q7 q8
      obtain ⟨n9, rfl⟩ : ∃ j, n9 = j + 1 := ⟨n9 - 1, by omega⟩
      have r2 : (zR z 909 0 0 0).2 = 0 := by rw [q3, hg]
      have r1 : (zR z 909 0 0 0).1 = g := by rw [q3, hg]
      refine ⟨z, ?_, q3, q4, q5, q6, q7, fun c hc => q8 c (by omega)⟩
      rw [fX14_item_263, q4 911 0 0 0 (by omega) (by omega), h2, if_pos ((n_le (by omega) (by omega)).mpr (by omega)), if_pos r2, lt_k, r1, q4 768 g 0 0 (by omega) (by omega), h5, i_1, n_add]
    | succ k ih =>
      intro y n9 z q1 q2 q3 q4 q5 q6 q7 q8
      obtain ⟨n9, rfl⟩ : ∃ j, n9 = j + 1 := ⟨n9 - 1, by omega⟩
      have r2 : (zR z 909 0 0 0).2 = 0 := by rw [q3, hg]
      have r1 : (zR z 909 0 0 0).1 = g := by rw [q3, hg]
      have g1 : gi (nI y) 1500 := (n_gi (by omega)).mpr (by omega)
      have g2 : gi ((6 * nI n) + nI y) 72 := by rw [i_6, n_mul, n_add]; exact (n_gi (by omega)).mpr (by omega)
      have hc6 : Int32.toNatClampNeg ((6 * nI n : Int32) + nI y) = 6 * n + y := by rw [i_6, n_mul, n_add, n_cl (by omega)]
      have hcy : Int32.toNatClampNeg (nI y) = y := n_cl (by omega)
      have s2 : ∀ p i a, (zR (sJ z 1796 p 0 i a) 909 0 0 0).2 = 0 := fun _ _ _ => r2
      have s1 : ∀ p i a, (zR (sJ z 1796 p 0 i a) 909 0 0 0).1 = g := fun _ _ _ => r1
      have t2 : ∀ p i a p2 i2 b, (zR (sI (sJ z 1796 p 0 i a) 1803 p2 0 i2 b) 909 0 0 0).2 = 0 := fun _ _ _ _ _ _ => r2
      have t1 : ∀ p i a p2 i2 b, (zR (sI (sJ z 1796 p 0 i a) 1803 p2 0 i2 b) 909 0 0 0).1 = g := fun _ _ _ _ _ _ => r1
      rw [fX14_item_263, q4 911 0 0 0 (by omega) (by omega), h2, if_neg (fun z => by have := (n_le (by omega) (by omega)).mp z; omega), if_pos r2, if_pos g1, if_pos g2, lt_k, if_pos (s2 _ _ _), if_pos g1, if_pos g2, lt_k, if_pos (t2 _ _ _ _ _ _), if_pos g1, if_pos g2, lt_k, t1, s1, r1, hc6, hcy, i_1, n_add]
      refine ih (y + 1) n9 _ (by omega) (by omega) q3 (fun c q s i n1 n2 => ?_) (fun c q s i n1 n2 => ?_) ?_ q7 (fun c hcc => ⟨?_, ?_, ?_⟩)
      · rw [zI_sI, if_neg (fun e => n2 ⟨Or.inr e.1, e.2.1, e.2.2.1, by omega, by omega⟩), zI_sI, if_neg (fun e => n2 ⟨Or.inl e.1, e.2.1, e.2.2.1, by omega, by omega⟩)]
        exact q4 c q s i n1 n2
      · show zJ (sJ z 1796 g 0 (6 * n + y) (zJ z 1936 0 0 y)) c q s i = _
        rw [zJ_sJ, if_neg (fun e => n2 ⟨e.1, e.2.1, e.2.2.1, by omega, by omega⟩)]
        exact q5 c q s i n1 n2
      · rw [sI_c (by decide), sI_c (by decide)]; exact q6
      · show zJ (sJ z 1796 g 0 (6 * n + y) (zJ z 1936 0 0 y)) 1796 g 0 (6 * n + c) = _
        rw [zJ_sJ]
        by_cases e : c = y
        · subst e
          rw [if_pos ⟨rfl, rfl, rfl, rfl⟩]; exact q5 1936 0 0 c (by omega) (by omega)
        · rw [if_neg (fun z => e (by have := z.2.2.2; omega))]; exact (q8 c (by omega)).1
      · rw [sI_c (by decide), zI_sI]
        by_cases e : c = y
        · subst e
          rw [if_pos ⟨rfl, rfl, rfl, rfl⟩]; exact q4 1937 0 0 c (by omega) (by omega)
        · rw [if_neg (fun z => e (by have := z.2.2.2; omega))]; exact (q8 c (by omega)).2.1
      · rw [zI_sI]
        by_cases e : c = y
        · subst e
          rw [if_pos ⟨rfl, rfl, rfl, rfl⟩, sI_c (by decide)]; exact q4 1938 0 0 c (by omega) (by omega)
        · rw [if_neg (fun z => e (by have := z.2.2.2; omega)), sI_c (by decide)]; exact (q8 c (by omega)).2.2
  have r2 : (zR ρ 909 0 0 0).2 = 0 := by rw [hg]
  have r1 : (zR ρ 909 0 0 0).1 = g := by rw [hg]
  have gn : gi (nI n) 12 := (n_gi (by omega)).mpr hn
  obtain ⟨z', e1, e2, e3, e4, e5, e6, e7⟩ := l w 0 FU ρ0 (by omega) (by unfold FU; omega) (by rw [hρ0]; rfl) (fun c q s i n1 n2 => by rw [hρ0, zI_sI, if_neg n1]; rfl) (fun c q s i n1 n2 => by rw [hρ0]; show zJ (sJ ρ 1793 g 0 n nm) c q s i = _; rw [zJ_sJ, if_neg n1]) (by rw [hρ0, zI_sI, if_pos ⟨rfl, rfl, rfl, rfl⟩]) (by rw [hρ0]; show zJ (sJ ρ 1793 g 0 n nm) 1793 g 0 n = _; rw [zJ_sJ, if_pos ⟨rfl, rfl, rfl, rfl⟩]) (fun c hc => absurd hc (Nat.not_lt_zero _))
  refine ⟨sI z' 768 g 0 0 (nI (N + 1)), ?_, fun c q s i n1 n2 n3 => ?_, fun c q s i n1 n2 => e4 c q s i n1 n2, e2, ?_, ?_, e6, fun c hc => ⟨(e7 c hc).1, ?_, ?_⟩⟩
  · unfold fX14_item_221
    have f1 : ∀ p i, (zR (sJ ρ 1793 p 0 i nm) 909 0 0 0).2 = 0 := fun _ _ => r2
    have f2 : ∀ p i, (zR (sJ ρ 1793 p 0 i nm) 909 0 0 0).1 = g := fun _ _ => r1
    have f3 : ∀ p i, zI (sJ ρ 1793 p 0 i nm) 911 0 0 0 = nI w := fun _ _ => h2
    rw [bw_e must_1, hm, if_neg (by decide), if_pos r2, if_pos gn, lt_k, if_pos (f1 _ _), if_pos gn, lt_k, f2, f3, r1, n_cl (show n < 2147483648 by omega), ← hρ0]
    exact e1
  · rw [zI_sI, if_neg (fun e => n2 ⟨e.1, e.2.1, e.2.2.1⟩)]
    exact e3 c q s i n1 n3
  · rw [sI_c (by decide)]; exact e5
  · rw [zI_sI, if_pos ⟨rfl, rfl, rfl, rfl⟩]
  · rw [sI_c (by decide)]; exact (e7 c hc).2.1
  · rw [sI_c (by decide)]; exact (e7 c hc).2.2
end SE
