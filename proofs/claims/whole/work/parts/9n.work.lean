/-! ITEMS, both: a step's head: its work, its first input -/
/-- what the first input does to the class's cells -/
def FIn (S n K A W : Nat) (σ σ1 : Zs) : Prop := zR σ1 198 0 0 0 = (S, A) ∧ (∀ c q s i, ¬ (c = 198 ∧ q = 0 ∧ s = 0 ∧ i = 0) → zR σ1 c q s i = zR σ c q s i) ∧ zI σ1 1476 S n 0 = nI A ∧ (∀ c q s i, ¬ (c = 1476 ∧ q = S ∧ s = n ∧ i = 0) → ¬ (c = 201 ∧ q = 0 ∧ s = 0 ∧ i = 0) → zI σ1 c q s i = zI σ c q s i) ∧ (∀ c q s i, ¬ (c = 1224 ∧ q = 0 ∧ s = 0) → zJ σ1 c q s i = zJ σ c q s i)
  ∧ (K = 3 ∨ K = 7 → zI σ1 201 0 0 0 = zI σ 201 0 0 0) ∧ (¬ (K = 3 ∨ K = 7) → zI σ1 201 0 0 0 = nI W ∧ ∀ j, j < W → zJ σ1 1224 0 0 j = zJ σ 1475 S A j)
section SW
variable {x : Cx} {t : Nat} {σ ρ : Zs} {d : Pd}
theorem cp_C {S A W : Nat} (h : zI σ 450 S A 0 = nI W) (hW : W ≤ 6) : ∃ σ1, fX7_copyColumns S A σ = some (nI W, σ1) ∧ (∀ c q s i, zI σ1 c q s i = zI σ c q s i) ∧ (∀ c q s i, ¬ (c = 1224 ∧ q = 0 ∧ s = 0) → zJ σ1 c q s i = zJ σ c q s i) ∧ zR σ1 = zR σ ∧ ∀ j, j < W → zJ σ1 1224 0 0 j = zJ σ 1475 S A j := by
  have l : ∀ (k y n9 : Nat) (z : Zs), y + k = W → k < n9 → (∀ c q s i, zI z c q s i = zI σ c q s i) → (∀ c q s i, ¬ (c = 1224 ∧ q = 0 ∧ s = 0) → zJ z c q s i = zJ σ c q s i) → zR z = zR σ → (∀ j, j < y → zJ z 1224 0 0 j = zJ σ 1475 S A j) → ∃ z', fX7_copyColumns_2 S A n9 (nI y) z = some (nI W, z') ∧ (∀ c q s i, zI z' c q s i = zI σ c q s i) ∧ (∀ c q s i, ¬ (c = 1224 ∧ q = 0 ∧ s = 0) → zJ z' c q s i = zJ σ c q s i) ∧ zR z' = zR σ ∧ ∀ j, j < W → zJ z' 1224 0 0 j = zJ σ 1475 S A j := by
    intro k
    induction k with
    | zero =>
      intro y n9 z q1 q2 q3 q4 q5 q6
      obtain ⟨n9, rfl⟩ : ∃ j, n9 = j + 1 := ⟨n9 - 1, by omega⟩
      refine ⟨z, ?_, q3, q4, q5, fun j hj => q6 j (by omega)⟩
      rw [fX7_copyColumns_2, q3, h, if_pos ((n_le (by omega) (by omega)).mpr (by omega))]
    | succ k ih =>
      intro y n9 z q1 q2 q3 q4 q5 q6
      obtain ⟨n9, rfl⟩ : ∃ j, n9 = j + 1 := ⟨n9 - 1, by omega⟩
      rw [fX7_copyColumns_2, q3, h, if_neg (fun z => by have := (n_le (by omega) (by omega)).mp z; omega), i_1500, if_neg (fun z => by have := (n_le (by omega) (by omega)).mp z; omega), i_6, if_neg (fun z => by have := (n_le (by omega) (by omega)).mp z; omega), if_pos ((n_gi (by omega)).mpr (by omega)), if_pos ((n_gi (by omega)).mpr (by omega)), lt_k, n_cl (by omega), i_1, n_add]
      refine ih (y + 1) n9 _ (by omega) (by omega) q3 (fun c q s i hn => ?_) q5 (fun j hj => ?_)
      · rw [zJ_sJ, if_neg (fun z => hn ⟨z.1, z.2.1, z.2.2.1⟩)]; exact q4 c q s i hn
      · rw [zJ_sJ]
        by_cases e : j = y
        · subst e
          rw [if_pos ⟨rfl, rfl, rfl, rfl⟩]; exact q4 1475 S A j (by omega)
        · rw [if_neg (fun z => e z.2.2.2)]; exact q6 j (by omega)
  exact l W 0 FU σ (by omega) (by unfold FU; omega) (fun _ _ _ _ => rfl) (fun _ _ _ _ _ => rfl) rfl (fun j hj => absurd hj (Nat.not_lt_zero _))
theorem fi_C {S n K A W : Nat} {w : Int64} {p : Int32} (h192 : zI σ 192 0 0 0 = 0) (h197 : zI σ 197 0 0 0 = 0) (h195 : zR σ 195 0 0 0 = (S, n)) (h194 : zR σ 194 0 0 0 = (S, 0)) (hK : zI σ 449 S n 0 = nI K) (hK8 : K < 100) (hA : A < 12) (hs : fX5_streamNamed S w σ = some (nI A, σ)) (h450 : zI σ 450 S A 0 = nI W) (hW : W ≤ 6) : ∃ σ1, fX3_lookAtName 2 w p σ = some ((), σ1) ∧ FIn S n K A W σ σ1 := by
  have r4 : (zR σ 194 0 0 0).1 = S := by rw [h194]
  have hlk : fX3_lookAtName 2 w p σ = bq (fX3_setFirstInput w p σ) fun _ z => some ((), z) := by
    unfold fX3_lookAtName
    rw [if_pos h192, if_neg (by decide), if_neg (by decide), if_pos rfl]
  obtain ⟨z, hz⟩ : ∃ z, z = sI (sR σ 198 0 0 0 (S, A)) 1476 S n 0 (nI A) := ⟨_, rfl⟩
  have e197 : zI (sR σ 198 0 0 0 (S, A)) 197 0 0 0 = 0 := h197
  have e195 : zR (sR σ 198 0 0 0 (S, A)) 195 0 0 0 = (S, n) := h195
  have z198 : zR z 198 0 0 0 = (S, A) := by rw [hz]; rfl
  have z195 : zR z 195 0 0 0 = (S, n) := by rw [hz]; exact h195
  have z449 : zI z 449 S n 0 = nI K := by rw [hz, sI_c (by decide)]; exact hK
  have z450 : zI z 450 S A 0 = nI W := by rw [hz, sI_c (by decide)]; exact h450
  have zI' : ∀ c q s i, ¬ (c = 1476 ∧ q = S ∧ s = n ∧ i = 0) → zI z c q s i = zI σ c q s i := fun c q s i hn => by rw [hz, zI_sI, if_neg hn]; rfl
  have zJ' : ∀ c q s i, zJ z c q s i = zJ σ c q s i := fun c q s i => by rw [hz]; rfl
  have zR' : ∀ c q s i, ¬ (c = 198 ∧ q = 0 ∧ s = 0 ∧ i = 0) → zR z c q s i = zR σ c q s i := fun c q s i hn => by
    rw [hz]
    show zR (sR σ 198 0 0 0 (S, A)) c q s i = _
    rw [zR_sR, if_neg hn]
  have z1476 : zI z 1476 S n 0 = nI A := by rw [hz, zI_sI, if_pos ⟨rfl, rfl, rfl, rfl⟩]
  have hset : fX3_setFirstInput w p σ = if zI z 449 S n 0 = 3 then some ((), z) else (if zI z 449 S n 0 = 7 then some ((), z) else bq (fX7_copyColumns S A z) fun v18 σ19 => lt (sI σ19 201 0 0 0 v18) fun σ22 => some ((), σ22)) := by
    unfold fX3_setFirstInput
    rw [r4, bq_e hs, if_pos (show (0 : Int32) ≤ nI A by rw [i_0, n_le (by omega) (by omega)]; omega), if_pos ((n_gi (by omega)).mpr hA), n_cl (show A < 2147483648 by omega), lt_k, r4, e197, if_pos rfl, if_pos (show gi 0 2 by decide), lt_k]
    have ez : sI (sR σ 198 0 0 0 (S, A)) 1476 ((zR (sR σ 198 0 0 0 (S, A)) 195 0 0 0).1) ((zR (sR σ 198 0 0 0 (S, A)) 195 0 0 0).2) (Int32.toNatClampNeg 0) (nI A) = z := by rw [e195, hz]; rfl
    rw [ez, z195, z198]
  have k3 : (nI K : Int32) = 3 ↔ K = 3 := n_eq (a := K) (b := 3) (by omega) (by omega)
  have k7 : (nI K : Int32) = 7 ↔ K = 7 := n_eq (a := K) (b := 7) (by omega) (by omega)
  rw [hlk, hset, z449]
  by_cases q : K = 3 ∨ K = 7
  · have e : (if (nI K : Int32) = 3 then some ((), z) else (if (nI K : Int32) = 7 then some ((), z) else bq (fX7_copyColumns S A z) fun v18 σ19 => lt (sI σ19 201 0 0 0 v18) fun σ22 => some ((), σ22))) = some ((), z) := by
      rcases q with q | q
      · rw [if_pos (k3.mpr q)]
      · by_cases q3 : K = 3
        · rw [if_pos (k3.mpr q3)]
        · rw [if_neg (fun z => q3 (k3.mp z)), if_pos (k7.mpr q)]
    rw [e, bq_s]
    exact ⟨z, rfl, z198, zR', z1476, fun c q s i h1 h2 => zI' c q s i h1, fun c q s i _ => zJ' c q s i, fun _ => zI' _ _ _ _ (by omega), fun h => absurd q h⟩
  · obtain ⟨y, y1, y2, y3, y4, y5⟩ := cp_C z450 hW
    rw [if_neg (fun z => q (Or.inl (k3.mp z))), if_neg (fun z => q (Or.inr (k7.mp z))), bq_e y1, lt_k, bq_s]
    refine ⟨_, rfl, ?_, fun c q s i hn => ?_, ?_, fun c q s i h1 h2 => ?_, fun c q s i hn => ?_, fun h => absurd h q, fun _ => ⟨rfl, fun j hj => ?_⟩⟩
    · show zR y 198 0 0 0 = _; rw [y4]; exact z198
    · show zR y c q s i = _; rw [y4]; exact zR' c q s i hn
    · rw [sI_c (by decide), y2]; exact z1476
    · rw [zI_sI, if_neg h2, y2]; exact zI' c q s i h1
    · show zJ y c q s i = _; rw [y3 c q s i hn]; exact zJ' c q s i
    · show zJ y 1224 0 0 j = _; rw [y5 j hj]; exact zJ' _ _ _ _
theorem fi_no {S : Nat} {w : Int64} {p : Int32} (h192 : zI σ 192 0 0 0 = 0) (h194 : zR σ 194 0 0 0 = (S, 0)) (hs : fX5_streamNamed S w σ = some (-nI 1, σ)) : fX3_lookAtName 2 w p σ = bq (fX3_report 2 p σ) fun _ z => some ((), z) := by
  have r4 : (zR σ 194 0 0 0).1 = S := by rw [h194]
  have em : ∀ o : Option (Unit × Zs), bq (bq o fun v z => some ((), z)) (fun _ z => some ((), z)) = bq o fun v z => some ((), z) := fun o => by
    rcases o with _ | ⟨v, z⟩
    · rfl
    · rfl
  unfold fX3_lookAtName
  rw [if_pos h192, if_neg (by decide), if_neg (by decide), if_pos rfl]
  unfold fX3_setFirstInput
  rw [r4, bq_e hs, if_neg (by decide), em]
theorem SIx.fi {L z K A W : Nat} {σ1 σb ρb : Zs} (h : SIx x d L z σb ρb t σ ρ) (f : FIn (qS x) (dN d) K A W σ σ1) : SIx x d L z σb ρb t σ1 ρ := by
  obtain ⟨h1, h2, h3, h4, h5, L', z', h6, h7, h8, h9, h10, h11⟩ := h
  obtain ⟨f1, f2, f3, f4, f5, _, _⟩ := f
  refine ⟨(f4 _ _ _ _ (by omega) (by omega)).trans h1, (f4 _ _ _ _ (by omega) (by omega)).trans h2, (f2 _ _ _ _ (by omega)).trans h3, ?_, h5, L', z', h6, h7, h8, h9, (f4 _ _ _ _ (by omega) (by omega)).trans h10, h11⟩
  refine h4.tr ⟨fun c q s hw i => ⟨?_, ?_, ?_⟩, fun j hj => ⟨f4 _ _ _ _ (by omega) (by omega), f5 _ _ _ _ (by omega)⟩⟩
  · refine f4 c q s i ?_ ?_
    · rintro ⟨rfl, rfl, rfl, _⟩; rw [wI_S rfl] at hw; cases hw
    · rintro ⟨rfl, rfl, _⟩; rw [wI_0 rfl] at hw; cases hw
  · refine f5 c q s i ?_
    rintro ⟨rfl, rfl, _⟩; rw [wI_0 rfl] at hw; cases hw
  · refine f2 c q s i ?_
    rintro ⟨rfl, rfl, _⟩; rw [wI_0 rfl] at hw; cases hw
end SW
