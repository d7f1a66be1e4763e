/-! ITEMS, the law: a stream's columns, but one, are said again -/
def dl (Z y : Nat) : Nat := if Z < y then 1 else 0
def skc (Z j : Nat) : Nat := if j < Z then j else j + 1
def SA (g A w0 Z : Nat) (P : Zs → Prop) (ρ0 : Zs) (y : Nat) (ρ : Zs) : Prop := zI ρ 911 0 0 0 = nI (w0 + (y - dl Z y))
  ∧ (∀ j, j < y - dl Z y → zJ ρ 1936 0 0 (w0 + j) = zJ ρ0 1796 g 0 (6 * A + skc Z j) ∧ zI ρ 1937 0 0 (w0 + j) = nI (skc Z j) ∧ zI ρ 1938 0 0 (w0 + j) = nI 0)
  ∧ (∀ j, j < w0 → zJ ρ 1936 0 0 j = zJ ρ0 1936 0 0 j ∧ zI ρ 1937 0 0 j = zI ρ0 1937 0 0 j ∧ zI ρ 1938 0 0 j = zI ρ0 1938 0 0 j)
  ∧ (∀ c q s i, c ≠ 911 ∧ c ≠ 1937 ∧ c ≠ 1938 → zI ρ c q s i = zI ρ0 c q s i) ∧ (∀ c q s i, c ≠ 1936 → zJ ρ c q s i = zJ ρ0 c q s i) ∧ zR ρ = zR ρ0 ∧ P ρ
section SL
variable {x : Cx} {t : Nat} {σ ρ : Zs} {d : Pd}
theorem sayR_I {w : Nat} {a : Int64} {s u : Int32} {c q e i : Nat} (h : c ≠ 911 ∧ c ≠ 1937 ∧ c ≠ 1938) : zI (sayR ρ w a s u) c q e i = zI ρ c q e i := by
  unfold sayR
  rw [sI_c h.1, sI_c h.2.2, sI_c h.2.1]; rfl
theorem sayR_J {w : Nat} {a : Int64} {s u : Int32} {c q e i : Nat} (h : c ≠ 1936) : zJ (sayR ρ w a s u) c q e i = zJ ρ c q e i := by
  show zJ (sJ ρ 1936 0 0 w a) c q e i = _
  rw [sJ_c h]
theorem sayR_n {w : Nat} {a : Int64} {s u : Int32} : zI (sayR ρ w a s u) 911 0 0 0 = nI (w + 1) := by
  unfold sayR
  rw [zI_sI, if_pos ⟨rfl, rfl, rfl, rfl⟩]
theorem sa_2 {g A W w0 Z : Nat} {x2 : Int32} {P : Zs → Prop} {ρ0 : Zs} (hm : zI ρ0 906 0 0 0 = nI 1) (hg : zR ρ0 909 0 0 0 = (g, 0)) (hA : A < 12) (hW : W ≤ 6) (h95 : zI ρ0 1795 g 0 A = nI W) (hz : ∀ c, c < W → (nI c = x2 ↔ c = Z)) (hw0 : w0 ≤ 100) (hP : ∀ ρ w a s u, P ρ → P (sayR ρ w a s u)) :
    ∀ (k y n : Nat) (ρ : Zs), y + k = W → k < n → SA g A w0 Z P ρ0 y ρ → ∃ ρ', fX14_sayAll_2 (nI A) x2 n (nI y) ρ = some ((), ρ') ∧ SA g A w0 Z P ρ0 W ρ' := by
  intro k
  induction k with
  | zero =>
    intro y n ρ h1 h2 h
    obtain ⟨n, rfl⟩ : ∃ j, n = j + 1 := ⟨n - 1, by omega⟩
    obtain ⟨s1, s2, s3, s4, s5, s6, s7⟩ := id h
    have r2 : (zR ρ 909 0 0 0).2 = 0 := by rw [s6, hg]
    have r1 : (zR ρ 909 0 0 0).1 = g := by rw [s6, hg]
    have gA : gi (nI A) 12 := (n_gi (by omega)).mpr hA
    obtain rfl : y = W := by omega
    refine ⟨ρ, ?_, h⟩
    rw [fX14_sayAll_2, s4 906 0 0 0 (by decide), hm, if_neg (by decide), if_pos r2, if_pos gA, r1, n_cl (show A < 2147483648 by omega), s4 1795 g 0 A (by decide), h95, if_pos ((n_le (by omega) (by omega)).mpr (Nat.le_refl _))]
  | succ k ih =>
    intro y n ρ h1 h2 h
    obtain ⟨n, rfl⟩ : ∃ j, n = j + 1 := ⟨n - 1, by omega⟩
    obtain ⟨s1, s2, s3, s4, s5, s6, s7⟩ := id h
    have r2 : (zR ρ 909 0 0 0).2 = 0 := by rw [s6, hg]
    have r1 : (zR ρ 909 0 0 0).1 = g := by rw [s6, hg]
    have gA : gi (nI A) 12 := (n_gi (by omega)).mpr hA
    have g2 : gi ((6 * nI A) + nI y) 72 := by rw [i_6, n_mul, n_add]; exact (n_gi (by omega)).mpr (by omega)
    have hc6 : Int32.toNatClampNeg ((6 * nI A : Int32) + nI y) = 6 * A + y := by rw [i_6, n_mul, n_add, n_cl (by omega)]
    have n1 : ¬ (nI W : Int32) ≤ nI y := fun z => by have := (n_le (by omega) (by omega)).mp z; omega
    rw [fX14_sayAll_2, s4 906 0 0 0 (by decide), hm, if_neg (by decide), if_pos r2, if_pos gA, r1, n_cl (show A < 2147483648 by omega), s4 1795 g 0 A (by decide), h95, if_neg n1]
    by_cases q : y = Z
    · rw [if_pos ((hz y (by omega)).mpr q), i_1, n_add]
      refine ih (y + 1) n ρ (by omega) (by omega) ?_
      have e : y + 1 - dl Z (y + 1) = y - dl Z y := by unfold dl; rw [if_pos (by omega), if_neg (by omega)]; omega
      unfold SA
      rw [e]; exact h
    · have hmm : zI ρ 906 0 0 0 = nI 1 := (s4 906 0 0 0 (by decide)).trans hm
      rw [if_neg (fun z => q ((hz y (by omega)).mp z)), if_pos r2, if_pos g2, hc6, bq_e (say_1 hmm s1 (by omega)), i_1, n_add]
      refine ih (y + 1) n _ (by omega) (by omega) ?_
      have e : y + 1 - dl Z (y + 1) = (y - dl Z y) + 1 := by
        unfold dl
        by_cases q2 : Z < y
        · rw [if_pos (by omega), if_pos q2]; omega
        · rw [if_neg (by omega), if_neg q2]; omega
      have e2 : skc Z (y - dl Z y) = y := by
        unfold dl skc
        by_cases q2 : Z < y
        · rw [if_pos q2, if_neg (by omega)]; omega
        · rw [if_neg q2, if_pos (by omega)]; omega
      unfold SA
      rw [e]
      refine ⟨sayR_n, fun j hj => ?_, fun j hj => ?_, fun c q s i hn => (sayR_I hn).trans (s4 c q s i hn), fun c q s i hn => (sayR_J hn).trans (s5 c q s i hn), s6, hP _ _ _ _ _ s7⟩
      · obtain ⟨j1, j2, j3⟩ := sayR_j (ρ := ρ) (w := w0 + (y - dl Z y)) (j := w0 + j) (a := zJ ρ 1796 g 0 (6 * A + y)) (s := nI y) (u := 0)
        rw [j1, j2, j3]
        by_cases q3 : j = y - dl Z y
        · rw [if_pos (by omega), if_pos (by omega), if_pos (by omega), q3, e2]
          exact ⟨s5 _ _ _ _ (by decide), rfl, rfl⟩
        · rw [if_neg (by omega), if_neg (by omega), if_neg (by omega)]
          exact s2 j (by omega)
      · obtain ⟨j1, j2, j3⟩ := sayR_j (ρ := ρ) (w := w0 + (y - dl Z y)) (j := j) (a := zJ ρ 1796 g 0 (6 * A + y)) (s := nI y) (u := 0)
        rw [j1, j2, j3, if_neg (by omega), if_neg (by omega), if_neg (by omega)]
        exact s3 j hj
/-- all of a stream's columns -/
theorem sa_1 {g A W w0 : Nat} {P : Zs → Prop} (hm : zI ρ 906 0 0 0 = nI 1) (hg : zR ρ 909 0 0 0 = (g, 0)) (hA : A < 12) (hW : W ≤ 6) (h95 : zI ρ 1795 g 0 A = nI W) (h911 : zI ρ 911 0 0 0 = nI w0) (hw0 : w0 ≤ 100) {Z : Nat} {x2 : Int32} (hz : ∀ c, c < W → (nI c = x2 ↔ c = Z)) (hP : ∀ ρ w a s u, P ρ → P (sayR ρ w a s u)) (h : P ρ) : ∃ ρ', fX14_sayAll (nI A) x2 ρ = some ((), ρ') ∧ SA g A w0 Z P ρ W ρ' := by
  have e0 : 0 - dl Z 0 = 0 := by omega
  refine sa_2 hm hg hA hW h95 hz hw0 hP W 0 FU ρ (by omega) (by unfold FU; omega) ?_
  unfold SA
  rw [e0]
  exact ⟨h911, fun j hj => absurd hj (Nat.not_lt_zero _), fun _ _ => ⟨rfl, rfl, rfl⟩, fun _ _ _ _ _ => rfl, fun _ _ _ _ _ => rfl, rfl, h⟩
theorem sa_0 {a b : Int32} (hm : zI ρ 906 0 0 0 = nI 0) : fX14_sayAll a b ρ = some ((), ρ) := by
  unfold fX14_sayAll
  rw [show FU = 19999 + 1 from rfl, fX14_sayAll_2, hm, if_pos (by rfl)]
/-- the first input's columns, both -/
theorem s_all (hc : Cok x) {L z A t' : Nat} {nm : Int64} {σb ρb : Zs} (m : qM x = 1) (hB : HB x d L z nm σb ρb) (hA : A < dN d) (h : SIx x d L z σb ρb t' σ ρ) (hl : IP x 0 t σ ρ) (h911 : zI ρ 911 0 0 0 = nI 0) : ∃ ρ', fX14_sayAll (nI A) (-1) ρ = some ((), ρ') ∧ zI ρ' 911 0 0 0 = nI (dW d A) ∧ (∀ c, c < dW d A → zJ ρ' 1936 0 0 c = dCn d A c ∧ zI ρ' 1937 0 0 c = nI c ∧ zI ρ' 1938 0 0 c = nI 0) ∧ (∀ c q s i, c ≠ 911 ∧ c ≠ 1937 ∧ c ≠ 1938 → zI ρ' c q s i = zI ρ c q s i) ∧ (∀ c q s i, c ≠ 1936 → zJ ρ' c q s i = zJ ρ c q s i) ∧ zR ρ' = zR ρ ∧ SIx x d L z σb ρb t' σ ρ' ∧ IP x 0 t σ ρ' := by
  obtain ⟨c1, c2, c3, c4⟩ := (h.old hB).col hB.1 hA
  have hN := hB.1.1.1
  have hW := c1.2.1
  obtain ⟨ρ', e1, e2, e3, e4, e5, e6, e7, e8⟩ := sa_1 (x2 := -1) (Z := dW d A) (P := fun r => SIx x d L z σb ρb t' σ r ∧ IP x 0 t σ r) (by rw [hc.m hl.2.1, m]) (hc.g hl.2.1) (by omega) hW c1.2.2.2.1 h911 (by decide) (fun c hcc => ⟨fun z => absurd z (n_mx (a := c) (by omega)), fun z => by omega⟩) (fun ρ w a s u q => ⟨q.1.sayR, q.2.lw q.2.2.1.sayR rfl rfl rfl⟩) ⟨h, hl⟩
  have ed : dW d A - dl (dW d A) (dW d A) = dW d A := by unfold dl; rw [if_neg (by omega)]; omega
  rw [ed] at e2 e3
  refine ⟨ρ', e1, by rw [e2, Nat.zero_add], fun c hcc => ?_, e5, e6, e7, e8.1, e8.2⟩
  have := e3 c hcc
  rw [Nat.zero_add] at this
  have es : skc (dW d A) c = c := by unfold skc; rw [if_pos hcc]
  rw [es] at this
  exact ⟨this.1.trans (c3 c hcc), this.2⟩
end SL
