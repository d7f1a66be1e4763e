/-! ITEMS, both: a second input; merge -/
section ME
variable {x : Cx} {t : Nat} {σ ρ : Zs} {d : Pd}
def SW2 (x : Cx) (d : Pd) (L z : Nat) (σb ρb : Zs) (nm : Int64) (np K A B wp bp t : Nat) (σ ρ : Zs) : Prop :=
  (qM x = 0 → M0 x ρ ∧ zI ρ 911 0 0 0 = nI 0 ∧ A = 0 ∧ B = 0) ∧ (qM x = 1 → HB x d L z nm σb ρb ∧ SIx x d L z σb ρb t σ ρ ∧ A < dN d ∧ B < dN d ∧ zJ σ 448 (qS x) (dN d) 0 = nm ∧ zI σ 449 (qS x) (dN d) 0 = nI K ∧ zI σ 1476 (qS x) (dN d) 0 = nI A ∧ zI σ 1476 (qS x) (dN d) 1 = nI B ∧ zI σ 202 0 0 0 = nI np ∧ zI σ 203 0 0 0 = nI wp ∧ zI σ 204 0 0 0 = nI bp ∧ zR σ 198 0 0 0 = (qS x, A) ∧ zR σ 199 0 0 0 = (qS x, B)
    ∧ zI ρ 1794 (qG x) 0 (dN d) = nI K ∧ zI ρ 1797 (qG x) 0 (dN d) = nI A ∧ zI ρ 911 0 0 0 = nI 0 ∧ zI σ 201 0 0 0 = nI (dW d A) ∧ ∀ j, j < dW d A → zJ σ 1224 0 0 j = dCn d A j)
def siC (σ : Zs) (S n B : Nat) (p : Int32) : Zs := sI (sI (sR σ 199 0 0 0 (S, B)) 1476 S n 1 (nI B)) 204 0 0 0 p
theorem s_second (hc : Cok x) {L z np K A wp : Nat} {nm : Int64} {σb ρb : Zs} (hK : K = 4 ∨ K = 5) (h : IP x 0 t σ ρ) (hD : SWK x d L z σb ρb nm np K A wp t σ ρ) : SM (Er x 0) (fX4_takeName 3 σ) (fX14_streamNamed ρ) (fun _ σ' w ρ' => ∃ B, w = nI B ∧ IP x 0 (t + 1) σ' ρ' ∧ SW2 x d L z σb ρb nm np K A B wp (qp x t) (t + 1) σ' ρ') := by
  have hnm : qM x = 1 → zI σ 192 0 0 0 = 0 ∧ NMS x d σ ρ := fun m => by
    obtain ⟨d1, d2, _⟩ := hD.2 m
    exact ⟨d2.1, (d2.old d1).nms d1.1.1.1⟩
  have hlk : qM x = 1 → fX3_lookAtName 3 (qw x t) (nI (qp x t)) σ = bq (fX3_setSecondInput (qw x t) (nI (qp x t)) σ) fun _ z => some ((), z) := fun m => by
    unfold fX3_lookAtName
    rw [if_pos (hnm m).1, if_neg (by decide), if_neg (by decide), if_neg (by decide), if_pos rfl]
  refine sm_m (s_strm (Q := fun B z => z = siC σ (qS x) (dN d) B (nI (qp x t))) hc h (by omega) (Or.inr rfl) hnm (fun m B hB hs => ?_) (fun m hs => ?_)) (fun _ σ' w ρ' q => ?_)
  · obtain ⟨d1, d2, _⟩ := hD.2 m
    have hN := d1.1.1.1
    have s1 : (zR σ 195 0 0 0).1 = qS x := by rw [d2.2.2.1]
    have s2 : (zR σ 195 0 0 0).2 = dN d := by rw [d2.2.2.1]
    have s4 : (zR σ 194 0 0 0).1 = qS x := by rw [h.1.2.1.1]
    refine ⟨_, ?_, rfl⟩
    rw [hlk m]
    unfold fX3_setSecondInput
    have p1 : ∀ r, (zR (sR σ 199 0 0 0 r) 195 0 0 0).1 = qS x := fun _ => s1
    have p2 : ∀ r, (zR (sR σ 199 0 0 0 r) 195 0 0 0).2 = dN d := fun _ => s2
    rw [s4, bq_e hs, if_pos (show (0 : Int32) ≤ nI B by rw [i_0, n_le (by omega) (by omega)]; omega), if_pos ((n_gi (by omega)).mpr (by omega)), s4, lt_k, if_pos (show gi 1 2 by decide), lt_k, lt_k, bq_s, p1, p2, n_cl (show B < 2147483648 by omega)]
    rfl
  · have s4 : (zR σ 194 0 0 0).1 = qS x := by rw [h.1.2.1.1]
    rw [hlk m]
    unfold fX3_setSecondInput
    rw [s4, bq_e hs, if_neg (by decide)]
    rcases fX3_report 2 (nI (qp x t)) σ with _ | ⟨v, z⟩
    · rfl
    · rfl
  · obtain ⟨q1, q2, q3, q4, q5⟩ := q
    rcases m01 hc with m | m
    · refine ⟨0, q4 m, q3, fun _ => ?_, fun q => by omega⟩
      obtain ⟨e1, e2, e3⟩ := hD.1 m
      rw [q2]
      exact ⟨e1, e2, e3, rfl⟩
    · obtain ⟨B, σ1, b1, b2, b3, k, p, v, b4⟩ := q5 m
      refine ⟨B, b2, q3, fun q => by omega, fun _ => ?_⟩
      obtain ⟨d1, d2, d3, d4, d5, d6, d7, d8, d9, d10, d11, d12, d13, d14, d15, d16, d17⟩ := hD.2 m
      have hK3 : ¬ (K = 3 ∨ K = 7) := by clear b4 b3 q5; omega
      have dk := d17 hK3
      rw [b4, b3, q2]
      refine ⟨d1, (((d2.cR (wI_0 rfl) (by decide)).cI (wI_S rfl) (by decide)).cI (wI_0 rfl) (by decide)).av (Nat.le_succ t), d3, b1, d4, ?_, ?_, ?_, ?_, ?_, ?_, d10, rfl, d11, d12, d15, ?_, dk.2⟩
      · show zI (siC σ (qS x) (dN d) B (nI (qp x t))) 449 (qS x) (dN d) 0 = _
        unfold siC; rw [sI_c (by decide), sI_c (by decide)]; exact d5
      · show zI (siC σ (qS x) (dN d) B (nI (qp x t))) 1476 (qS x) (dN d) 0 = _
        unfold siC; rw [sI_c (by decide), zI_sI, if_neg (fun z => by cases z.2.2.2)]; exact d6
      · show zI (siC σ (qS x) (dN d) B (nI (qp x t))) 1476 (qS x) (dN d) 1 = _
        unfold siC; rw [sI_c (by decide), zI_sI, if_pos ⟨rfl, rfl, rfl, rfl⟩]
      · show zI (siC σ (qS x) (dN d) B (nI (qp x t))) 202 0 0 0 = _
        unfold siC; rw [sI_c (by decide), sI_c (by decide)]; exact d8
      · show zI (siC σ (qS x) (dN d) B (nI (qp x t))) 203 0 0 0 = _
        unfold siC; rw [sI_c (by decide), sI_c (by decide)]; exact d9
      · show zI (siC σ (qS x) (dN d) B (nI (qp x t))) 204 0 0 0 = _
        unfold siC; rw [zI_sI, if_pos ⟨rfl, rfl, rfl, rfl⟩]
      · show zI (siC σ (qS x) (dN d) B (nI (qp x t))) 201 0 0 0 = _
        unfold siC; rw [sI_c (by decide), sI_c (by decide)]; exact dk.1
/-- the same columns? the class -/
theorem hc_C {S A B W WB : Nat} (h1 : zI σ 450 S A 0 = nI W) (h2 : zI σ 450 S B 0 = nI WB) (hW : W ≤ 6) (hWB : WB ≤ 6) : ∃ v, fX7_hasColumnsOf S A S B σ = some (v, σ) ∧ ((v = 1 ∧ W = WB ∧ ∀ c, c < W → zJ σ 1475 S A c = zJ σ 1475 S B c) ∨ (v = 0 ∧ ¬ (W = WB ∧ ∀ c, c < W → zJ σ 1475 S A c = zJ σ 1475 S B c))) := by
  have l : ∀ (k y n : Nat), y + k = W → k < n → (∀ c, c < y → zJ σ 1475 S A c = zJ σ 1475 S B c) → ∃ v, fX7_hasColumnsOf_15 S A S B n (nI y) σ = some (v, σ) ∧ ((v = 1 ∧ ∀ c, c < W → zJ σ 1475 S A c = zJ σ 1475 S B c) ∨ (v = 0 ∧ ¬ ∀ c, c < W → zJ σ 1475 S A c = zJ σ 1475 S B c)) := by
    intro k
    induction k with
    | zero =>
      intro y n q1 q2 q3
      obtain ⟨n, rfl⟩ : ∃ j, n = j + 1 := ⟨n - 1, by omega⟩
      refine ⟨1, ?_, Or.inl ⟨rfl, fun c hcw => q3 c (by omega)⟩⟩
      rw [fX7_hasColumnsOf_15, h1, if_pos ((n_le (by omega) (by omega)).mpr (by omega))]
    | succ k ih =>
      intro y n q1 q2 q3
      obtain ⟨n, rfl⟩ : ∃ j, n = j + 1 := ⟨n - 1, by omega⟩
      have g : gi (nI y) 6 := (n_gi (by omega)).mpr (by omega)
      rw [fX7_hasColumnsOf_15, h1, if_neg (fun z => by have := (n_le (by omega) (by omega)).mp z; omega), i_6, if_neg (fun z => by have := (n_le (by omega) (by omega)).mp z; omega), if_pos g, if_pos g, n_cl (by omega)]
      by_cases q : zJ σ 1475 S A y = zJ σ 1475 S B y
      · rw [if_pos (l_cmp0.mpr q), i_1, n_add]
        exact ih (y + 1) n (by omega) (by omega) (fun c hcy => by
          by_cases e : c = y
          · rw [e]; exact q
          · exact q3 c (by omega))
      · rw [if_neg (fun z => q (l_cmp0.mp z))]
        exact ⟨0, rfl, Or.inr ⟨rfl, fun z => q (z y (by omega))⟩⟩
  unfold fX7_hasColumnsOf
  rw [h1, h2]
  by_cases q : W = WB
  · rw [if_pos (by rw [q])]
    obtain ⟨v, e1, e2⟩ := l W 0 FU (by omega) (by unfold FU; omega) (fun c hcy => absurd hcy (Nat.not_lt_zero _))
    refine ⟨v, e1, ?_⟩
    rcases e2 with ⟨a1, a2⟩ | ⟨a1, a2⟩
    · exact Or.inl ⟨a1, q, a2⟩
    · exact Or.inr ⟨a1, fun z => a2 z.2⟩
  · rw [if_neg (fun z => q ((n_eq (by omega) (by omega)).mp z))]
    exact ⟨0, rfl, Or.inr ⟨rfl, fun z => q z.1⟩⟩
end ME
