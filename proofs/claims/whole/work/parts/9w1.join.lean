/-! ITEMS, both: join: the other stream's columns -/
def AO (S B w0 Z : Nat) (σ0 : Zs) (y : Nat) (σ : Zs) : Prop := zI σ 201 0 0 0 = nI (w0 + (y - dl Z y)) ∧ (∀ j, j < y - dl Z y → zJ σ 1224 0 0 (w0 + j) = zJ σ0 1475 S B (skc Z j)) ∧ (∀ j, j < w0 → zJ σ 1224 0 0 j = zJ σ0 1224 0 0 j) ∧ (∀ c q s i, ¬ (c = 201 ∧ q = 0 ∧ s = 0 ∧ i = 0) → zI σ c q s i = zI σ0 c q s i) ∧ (∀ c q s i, ¬ (c = 1224 ∧ q = 0 ∧ s = 0) → zJ σ c q s i = zJ σ0 c q s i) ∧ zR σ = zR σ0
theorem skc_lt {Z j y : Nat} (h : j < y - dl Z y) : skc Z j < y ∧ skc Z j ≠ Z := by
  unfold dl at h
  unfold skc
  by_cases q : Z < y
  · rw [if_pos q] at h
    by_cases q2 : j < Z
    · rw [if_pos q2]; omega
    · rw [if_neg q2]; omega
  · rw [if_neg q] at h
    rw [if_pos (by omega)]; omega
section JA
variable {x : Cx} {t : Nat} {σ ρ : Zs} {d : Pd}
theorem ao_t {S B W : Nat} (hW : W ≤ 6) : ∀ (k y n w : Nat) (σ : Zs), y + k = W → k < n → w + k ≤ 1400 → zI σ 201 0 0 0 = nI w → ¬ zI σ 192 0 0 0 = 0 → zR σ 199 0 0 0 = (S, B) → zI σ 450 S B 0 = nI W → ∃ σ', fX3_addOtherColumns_2 n (nI y) σ = some ((), σ') ∧ zI σ' 192 0 0 0 = zI σ 192 0 0 0 ∧ zI σ' 193 0 0 0 = zI σ 193 0 0 0 := by
  intro k
  induction k with
  | zero =>
    intro y n w σ h1 h2 h3 h201 h192 h199 h450
    obtain ⟨n, rfl⟩ : ∃ j, n = j + 1 := ⟨n - 1, by omega⟩
    have s1 : (zR σ 199 0 0 0).1 = S := by rw [h199]
    have s2 : (zR σ 199 0 0 0).2 = B := by rw [h199]
    rw [fX3_addOtherColumns_2, s1, s2, h450, if_pos ((n_le (by omega) (by omega)).mpr (by omega))]
    exact ⟨σ, rfl, rfl, rfl⟩
  | succ k ih =>
    intro y n w σ h1 h2 h3 h201 h192 h199 h450
    obtain ⟨n, rfl⟩ : ∃ j, n = j + 1 := ⟨n - 1, by omega⟩
    have s1 : (zR σ 199 0 0 0).1 = S := by rw [h199]
    have s2 : (zR σ 199 0 0 0).2 = B := by rw [h199]
    have ey : (nI y : Int32) + 1 = nI (y + 1) := by rw [i_1, n_add]
    rw [fX3_addOtherColumns_2, s1, s2, h450, if_neg (fun z => by have := (n_le (by omega) (by omega)).mp z; omega), ey]
    have hca : fX7_columnAt S B (nI y) σ = some (zJ σ 1475 S B y, σ) := by
      unfold fX7_columnAt
      rw [if_neg (m1_lt (by omega)), i_6, if_neg (fun z => by have := (n_le (by omega) (by omega)).mp z; omega), if_pos ((n_gi (by omega)).mpr (by omega)), n_cl (by omega)]
    split
    · exact ih (y + 1) n w σ (by omega) (by omega) (by omega) h201 h192 h199 h450
    · rw [bq_e hca]
      by_cases qd : ∃ j, j < w ∧ zJ σ 1224 0 0 j = zJ σ 1475 S B y
      · obtain ⟨j, j1, j2⟩ := qd
        have hrep : fX3_report 5 (zI σ 204 0 0 0) σ = some ((), σ) := by
          unfold fX3_report; rw [if_neg h192]
        rw [bq_e (ac_E h201 (by omega) j1 j2), if00, hrep, bq_s]
        exact ih (y + 1) n w σ (by omega) (by omega) (by omega) h201 h192 h199 h450
      · rw [bq_e (ac_C h201 (by omega) (fun j hj he => qd ⟨j, hj, he⟩)), if10]
        have g201 : zI (adN σ w (zJ σ 1475 S B y)) 201 0 0 0 = nI (w + 1) := by unfold adN; rw [zI_sI, if_pos ⟨rfl, rfl, rfl, rfl⟩]
        have gI : ∀ c q s i, c ≠ 201 → zI (adN σ w (zJ σ 1475 S B y)) c q s i = zI σ c q s i := fun c q s i hn => by
          unfold adN; rw [zI_sI, if_neg (fun z => hn z.1)]; rfl
        obtain ⟨σ', b1, b2, b3⟩ := ih (y + 1) n (w + 1) (adN σ w (zJ σ 1475 S B y)) (by omega) (by omega) (by omega) g201 (by rw [gI _ _ _ _ (by decide)]; exact h192) h199 (by rw [gI _ _ _ _ (by decide)]; exact h450)
        exact ⟨σ', b1, b2.trans (gI _ _ _ _ (by decide)), b3.trans (gI _ _ _ _ (by decide))⟩
theorem ao_2 {S n B W w0 Z : Nat} {σ0 : Zs} (h192 : zI σ0 192 0 0 0 = 0) (h195 : zR σ0 195 0 0 0 = (S, n)) (h199 : zR σ0 199 0 0 0 = (S, B)) (h450 : zI σ0 450 S B 0 = nI W) (hW : W ≤ 6) (h454 : zI σ0 454 S n 0 = nI Z) (hZ : Z < 1000) (hw0 : w0 ≤ 1000) (hdis : ∀ i j, i < W → j < W → zJ σ0 1475 S B i = zJ σ0 1475 S B j → i = j) :
    ∀ (k y n9 : Nat) (σ : Zs), y + k = W → k < n9 → AO S B w0 Z σ0 y σ → (∃ σ', fX3_addOtherColumns_2 n9 (nI y) σ = some ((), σ') ∧ AO S B w0 Z σ0 W σ' ∧ ∀ c, y ≤ c → c < W → c ≠ Z → ∀ j, j < w0 → zJ σ0 1224 0 0 j ≠ zJ σ0 1475 S B c) ∨ (∃ σ', fX3_addOtherColumns_2 n9 (nI y) σ = some ((), σ') ∧ zI σ' 192 0 0 0 = 5 ∧ zI σ' 193 0 0 0 = zI σ0 204 0 0 0 ∧ ∃ c j, y ≤ c ∧ c < W ∧ c ≠ Z ∧ j < w0 ∧ zJ σ0 1224 0 0 j = zJ σ0 1475 S B c) := by
  intro k
  induction k with
  | zero =>
    intro y n9 σ h1 h2 h
    obtain ⟨n9, rfl⟩ : ∃ j, n9 = j + 1 := ⟨n9 - 1, by omega⟩
    obtain ⟨a1, a2, a3, a4, a5, a6⟩ := id h
    have s1 : (zR σ 199 0 0 0).1 = S := by rw [a6, h199]
    have s2 : (zR σ 199 0 0 0).2 = B := by rw [a6, h199]
    obtain rfl : y = W := by omega
    refine Or.inl ⟨σ, ?_, h, fun c c1 c2 => by omega⟩
    rw [fX3_addOtherColumns_2, s1, s2, a4 450 _ _ _ (by omega), h450, if_pos ((n_le (by omega) (by omega)).mpr (Nat.le_refl _))]
  | succ k ih =>
    intro y n9 σ h1 h2 h
    obtain ⟨n9, rfl⟩ : ∃ j, n9 = j + 1 := ⟨n9 - 1, by omega⟩
    obtain ⟨a1, a2, a3, a4, a5, a6⟩ := id h
    have s1 : (zR σ 199 0 0 0).1 = S := by rw [a6, h199]
    have s2 : (zR σ 199 0 0 0).2 = B := by rw [a6, h199]
    have s3 : (zR σ 195 0 0 0).1 = S := by rw [a6, h195]
    have s4 : (zR σ 195 0 0 0).2 = n := by rw [a6, h195]
    have b192 : zI σ 192 0 0 0 = 0 := (a4 192 _ _ _ (by omega)).trans h192
    have b450 : zI σ 450 S B 0 = nI W := (a4 450 _ _ _ (by omega)).trans h450
    have b454 : zI σ 454 S n 0 = nI Z := (a4 454 _ _ _ (by omega)).trans h454
    have hcnt : y - dl Z y ≤ 6 := by omega
    rw [fX3_addOtherColumns_2, s1, s2, b450, if_neg (fun z => by have := (n_le (by omega) (by omega)).mp z; omega), s3, s4, b454, i_1, n_add]
    by_cases q : y = Z
    · rw [if_pos (by rw [q])]
      have e : y + 1 - dl Z (y + 1) = y - dl Z y := by unfold dl; rw [if_pos (by omega), if_neg (by omega)]; omega
      have h' : AO S B w0 Z σ0 (y + 1) σ := by unfold AO; rw [e]; exact h
      rcases ih (y + 1) n9 σ (by omega) (by omega) h' with ⟨σ', b1, b2, b3⟩ | ⟨σ', b1, b2, b3, c, j, b4, b5, b6, b7⟩
      · refine Or.inl ⟨σ', b1, b2, fun c c1 c2 c3 => b3 c (by omega) c2 c3⟩
      · exact Or.inr ⟨σ', b1, b2, b3, c, j, by omega, b5, b6, b7⟩
    · have hca : fX7_columnAt S B (nI y) σ = some (zJ σ0 1475 S B y, σ) := by
        unfold fX7_columnAt
        rw [if_neg (m1_lt (by omega)), i_6, if_neg (fun z => by have := (n_le (by omega) (by omega)).mp z; omega), if_pos ((n_gi (by omega)).mpr (by omega)), n_cl (by omega), a5 1475 _ _ _ (by omega)]
      rw [if_neg (fun z => q ((n_eq (by omega) (by omega)).mp z)), bq_e hca]
      by_cases qd : ∃ j, j < w0 ∧ zJ σ0 1224 0 0 j = zJ σ0 1475 S B y
      · obtain ⟨j, j1, j2⟩ := qd
        have hE := ac_E a1 (by omega) (show j < w0 + (y - dl Z y) by omega) ((a3 j j1).trans j2)
        have hrep : fX3_report 5 (zI σ 204 0 0 0) σ = some ((), sI (sI σ 192 0 0 0 5) 193 0 0 0 (zI σ 204 0 0 0)) := by
          unfold fX3_report; rw [if_pos b192, lt_k, lt_k]
        rw [bq_e hE, if00, hrep, bq_s]
        obtain ⟨σ', t1, t2, t3⟩ := ao_t (S := S) (B := B) hW k (y + 1) n9 (w0 + (y - dl Z y)) (sI (sI σ 192 0 0 0 5) 193 0 0 0 (zI σ 204 0 0 0)) (by omega) (by omega) (by omega) (by rw [sI_c (by decide), sI_c (by decide)]; exact a1) (show ¬ (5 : Int32) = 0 by decide) (by rw [← h199, ← a6]; rfl) (by rw [sI_c (by decide), sI_c (by decide)]; exact b450)
        exact Or.inr ⟨σ', t1, t2, t3.trans (a4 204 _ _ _ (by omega)), y, j, Nat.le_refl _, by omega, q, j1, j2⟩
      · have hn : ∀ j, j < w0 + (y - dl Z y) → zJ σ 1224 0 0 j ≠ zJ σ0 1475 S B y := fun j hj he => by
          by_cases q2 : j < w0
          · exact qd ⟨j, q2, (a3 j q2).symm.trans he⟩
          · obtain ⟨i, rfl⟩ : ∃ i, j = w0 + i := ⟨j - w0, by omega⟩
            have hi : i < y - dl Z y := by omega
            have := hdis _ _ (by have := (skc_lt hi).1; omega) (show y < W by omega) ((a2 i hi).symm.trans he)
            have := (skc_lt hi).1
            omega
        rw [bq_e (ac_C a1 (by omega) hn), if10]
        have e : y + 1 - dl Z (y + 1) = (y - dl Z y) + 1 := by
          unfold dl
          by_cases q2 : Z < y
          · rw [if_pos (by omega), if_pos q2]; omega
          · rw [if_neg (by omega), if_neg q2]; omega
        have e2 : skc Z (y - dl Z y) = y := by
          unfold dl skc
          by_cases q2 : Z < y
          · rw [if_pos q2, if_neg (by omega)]; omega
          · rw [if_neg q2, if_pos (by omega)]; omega
        have h' : AO S B w0 Z σ0 (y + 1) (adN σ (w0 + (y - dl Z y)) (zJ σ0 1475 S B y)) := by
          unfold AO
          rw [e]
          refine ⟨?_, fun j hj => ?_, fun j hj => ?_, fun c q s i hn => ?_, fun c q s i hn => ?_, a6⟩
          · unfold adN; rw [zI_sI, if_pos ⟨rfl, rfl, rfl, rfl⟩]; rfl
          · rw [adN_j]
            by_cases q3 : j = y - dl Z y
            · rw [if_pos (by omega), q3, e2]
            · rw [if_neg (by omega)]; exact a2 j (by omega)
          · rw [adN_j, if_neg (by omega)]; exact a3 j hj
          · unfold adN; rw [zI_sI, if_neg hn]; exact a4 c q s i hn
          · show zJ (sJ σ 1224 0 0 _ _) c q s i = _
            rw [zJ_sJ, if_neg (fun z => hn ⟨z.1, z.2.1, z.2.2.1⟩)]; exact a5 c q s i hn
        rcases ih (y + 1) n9 _ (by omega) (by omega) h' with ⟨σ', b1, b2, b3⟩ | ⟨σ', b1, b2, b3, c, j, b4, b5, b6, b7⟩
        · refine Or.inl ⟨σ', b1, b2, fun c c1 c2 c3 j hj he => ?_⟩
          by_cases qc : c = y
          · subst qc; exact qd ⟨j, hj, he⟩
          · exact b3 c (by omega) c2 c3 j hj he
        · exact Or.inr ⟨σ', b1, b2, b3, c, j, by omega, b5, b6, b7⟩
theorem j_218 (hc : Cok x) (m : qM x = 1) (hl : LFr x ρ) {w0 N : Nat} {x1 x2 p : Int32} (h911 : zI ρ 911 0 0 0 = nI N) (hN : N ≤ 1000) (hw0 : w0 ≤ 1000) : ∀ (k y n9 : Nat), y + k = N → k < n9 → (fX14_join_218 x1 x2 n9 p (nI w0) (nI y) ρ = some (.ok (), ρ) ∧ ∀ c, y ≤ c → c < N → ∀ j, j < w0 → zJ ρ 1936 0 0 j ≠ zJ ρ 1936 0 0 c) ∨ (fX14_join_218 x1 x2 n9 p (nI w0) (nI y) ρ = some (.error (5, p), ρ) ∧ ∃ c j, y ≤ c ∧ c < N ∧ j < w0 ∧ zJ ρ 1936 0 0 j = zJ ρ 1936 0 0 c) := by
  intro k
  induction k with
  | zero =>
    intro y n9 h1 h2
    obtain ⟨n9, rfl⟩ : ∃ j, n9 = j + 1 := ⟨n9 - 1, by omega⟩
    refine Or.inl ⟨?_, fun c c1 c2 => by omega⟩
    rw [fX14_join_218, h911, if_pos ((n_le (by omega) (by omega)).mpr (by omega))]
  | succ k ih =>
    intro y n9 h1 h2
    obtain ⟨n9, rfl⟩ : ∃ j, n9 = j + 1 := ⟨n9 - 1, by omega⟩
    have hix := name_R (c := 1936) (p := 0) (s := 0) (n0 := 1500) (off := 0) (N := w0) (w := zJ ρ 1936 0 0 y) (ρ := ρ) (by omega) (by decide) (by omega)
    have e1 : fX14_join_218 x1 x2 (n9 + 1) p (nI w0) (nI y) ρ = if nix (fun i => zJ ρ 1936 0 0 (0 + i)) (zJ ρ 1936 0 0 y) w0 0 = -1 then fX14_join_218 x1 x2 n9 p (nI w0) (nI (y + 1)) ρ else some (.error (5, p), ρ) := by
      rw [fX14_join_218, h911, if_neg (fun z => by have := (n_le (by omega) (by omega)).mp z; omega), if_pos ((n_gi (by omega)).mpr (by omega)), n_cl (show y < 2147483648 by omega), bq_e (show fX14_indexOf 1936 0 0 1500 0 (nI w0) (zJ ρ 1936 0 0 y) ρ = _ from hix), bw_e must_1, bw_x (must_e m hc hl), i_1, n_add]
    rw [e1]
    rcases nix_s (f := fun s => zJ ρ 1936 0 0 (0 + s)) (w := zJ ρ 1936 0 0 y) w0 0 with ⟨e, e2⟩ | ⟨i, _, hi, ei, e, _⟩
    · rw [e, if_pos (show (-nI 1 : Int32) = -1 from rfl)]
      rcases ih (y + 1) n9 (by omega) (by omega) with ⟨b1, b2⟩ | ⟨b1, c, j, b2, b3, b4⟩
      · refine Or.inl ⟨b1, fun c c1 c2 j hj he => ?_⟩
        by_cases qc : c = y
        · subst qc; exact e2 j (Nat.zero_le _) (by omega) (by rw [Nat.zero_add]; exact he)
        · exact b2 c (by omega) c2 j hj he
      · exact Or.inr ⟨b1, c, j, by omega, b3, b4⟩
    · rw [e, if_neg (n_mx (a := i) (by omega))]
      rw [Nat.zero_add] at ei
      exact Or.inr ⟨rfl, y, i, Nat.le_refl _, by omega, by omega, ei⟩
end JA
