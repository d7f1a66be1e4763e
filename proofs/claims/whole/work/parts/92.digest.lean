/-! DIGEST -/
section DG
variable {B P Q S g L N : Nat} {d : Pd} {X : Nat → Nat → Nat} {σ ρ : Zs}
theorem dg_c (h : Rl B P Q S g L d X σ ρ) {s i : Nat} (hs : s < dN d) (hi : i < X 0 s) : ∀ (k c n m : Nat) (x : Int64), c + k = dW d s → k < n → k < m → ∃ v, (∀ x1 k15, fX8_mixedInto_41 P s x1 k15 n x (nI i) (nI c) σ = k15 v (nI (i + 1)) σ) ∧ ∀ kk k107, fX14_digest_121 kk k107 m x (nI s) (nI i) (nI (c + 1)) ρ = k107 v (nI s) (nI (i + 1)) ρ := by
  have hN := h.n12
  obtain ⟨a1, a2, a3, a4, a5⟩ := h.2.2.1.2.2.2.1 s hs
  have hW6 := h.2.1.1.w6 hs
  have hz3 := h.2.1.2.2.2.2.1
  have h1795 := (h.2.1.2.2.1.2.2.1 s hs).2.2.1
  have gs : gi (nI s) 12 := (n_gi (by omega)).mpr (by omega)
  intro k
  induction k with
  | zero =>
    intro c n m x h1 h2 h3
    obtain ⟨n, rfl⟩ : ∃ j, n = j + 1 := ⟨n - 1, by omega⟩
    obtain ⟨m, rfl⟩ : ∃ j, m = j + 1 := ⟨m - 1, by omega⟩
    refine ⟨x, fun x1 k15 => ?_, fun kk k107 => ?_⟩
    · rw [fX8_mixedInto_41, a3, if_pos ((n_le (by omega) (by omega)).mpr (by omega)), i_1, n_add]
    · rw [fX14_digest_121, if_pos gs, hz3, n_cl (show s < 2147483648 by omega), h1795, if_pos ((n_lt (by omega) (by omega)).mpr (by omega)), i_1, n_add]
  | succ k ih =>
    intro c n m x h1 h2 h3
    obtain ⟨n, rfl⟩ : ∃ j, n = j + 1 := ⟨n - 1, by omega⟩
    obtain ⟨m, rfl⟩ : ∃ j, m = j + 1 := ⟨m - 1, by omega⟩
    have t1 := tab_num (σ := σ) a2 a3 a1 hi hW6 (show c < dW d s by omega)
    have e1 := (a5 i hi).2 c (by omega)
    rw [Nat.add_assoc, Nat.add_comm 1 c] at e1
    have g1 : (200 * s + i) * 7 + (c + 1) < 16800 := by omega
    obtain ⟨v, u1, u2⟩ := ih (c + 1) n m (x * 31 + zJ ρ 1940 0 0 ((200 * s + i) * 7 + (c + 1))) (by omega) (by omega) (by omega)
    refine ⟨v, fun x1 k15 => ?_, fun kk k107 => ?_⟩
    · rw [fX8_mixedInto_41, a3, if_neg (fun z => by have := (n_le (by omega) (by omega)).mp z; omega), bq_e t1, e1, i_1, n_add]
      exact u1 x1 k15
    · rw [fX14_digest_121, if_pos gs, hz3, n_cl (show s < 2147483648 by omega), h1795, if_neg (fun z => by have := (n_lt (by omega) (by omega)).mp z; omega), bq_e row_R, n_add, if_pos ((n_gi (by omega)).mpr g1), n_cl (by omega), i_1, n_add]
      exact u2 kk k107
theorem dg_r (h : Rl B P Q S g L d X σ ρ) {s : Nat} (hs : s < dN d) : ∀ (k i n m : Nat) (x : Int64), i + k = X 0 s → k < n → k < m → ∃ v, (∀ x1, fX8_mixedInto_15 P s x1 n x (nI i) σ = some (v, σ)) ∧ ∀ kk, fX14_digest_107 kk m x (nI s) (nI i) ρ = kk v (nI (s + 1)) ρ := by
  have hN := h.n12
  obtain ⟨a1, a2, a3, a4, a5⟩ := h.2.2.1.2.2.2.1 s hs
  have hW6 := h.2.1.1.w6 hs
  have hz3 := h.2.1.2.2.2.2.1
  have h1795 := (h.2.1.2.2.1.2.2.1 s hs).2.2.1
  have gs : gi (nI s) 12 := (n_gi (by omega)).mpr (by omega)
  have hFU : FU = 19999 + 1 := rfl
  intro k
  induction k with
  | zero =>
    intro i n m x h1 h2 h3
    obtain ⟨n, rfl⟩ : ∃ j, n = j + 1 := ⟨n - 1, by omega⟩
    obtain ⟨m, rfl⟩ : ∃ j, m = j + 1 := ⟨m - 1, by omega⟩
    refine ⟨x, fun x1 => ?_, fun kk => ?_⟩
    · rw [fX8_mixedInto_15, a2, if_pos ((n_le (by omega) (by omega)).mpr (by omega))]
    · rw [fX14_digest_107, if_pos gs, n_cl (show s < 2147483648 by omega), a4, if_pos ((n_le (by omega) (by omega)).mpr (by omega)), i_1, n_add]
  | succ k ih =>
    intro i n m x h1 h2 h3
    obtain ⟨n, rfl⟩ : ∃ j, n = j + 1 := ⟨n - 1, by omega⟩
    obtain ⟨m, rfl⟩ : ∃ j, m = j + 1 := ⟨m - 1, by omega⟩
    have hi : i < X 0 s := by omega
    have tt1 := tab_time (σ := σ) a2 a1 hi
    obtain ⟨⟨t, t1, t2, t3⟩, _⟩ := a5 i hi
    have hTB : TB s < 2147483648 := by unfold TB; omega
    have g1 : (200 * s + i) * 7 < 16800 := by omega
    have t3' : zJ ρ 1940 0 0 (Int32.toNatClampNeg (nI ((200 * s + i) * 7))) = lN t := by rw [n_cl (by omega)]; exact t3
    have h95 : zI ρ 1795 (zR ρ 898 0 0 0).1 0 (Int32.toNatClampNeg (nI s)) = nI (dW d s) := by rw [n_cl (by omega), hz3]; exact h1795
    obtain ⟨w, w1, w2⟩ := dg_c h hs hi (dW d s) 0 FU 19999 (x * 31 + lN t) (by omega) (by rw [hFU]; omega) (by omega)
    obtain ⟨v, u1, u2⟩ := ih (i + 1) n m w (by omega) (by omega) (by omega)
    refine ⟨v, fun x1 => ?_, fun kk => ?_⟩
    · rw [fX8_mixedInto_15, a2, if_neg (fun z => by have := (n_le (by omega) (by omega)).mp z; omega), bq_e tt1, t2, n_i64 (by omega)]
      exact (w1 x1 _).trans (u1 x1)
    · rw [fX14_digest_107, if_pos gs, n_cl (show s < 2147483648 by omega), a4, if_neg (fun z => by have := (n_le (by omega) (by omega)).mp z; omega), hFU, fX14_digest_121, if_pos gs, h95, if_neg (show ¬ (nI (dW d s) : Int32) < 0 by rw [i_0, n_lt (by omega) (by omega)]; omega), bq_e row_R, Int32.add_zero, if_pos ((n_gi (by omega)).mpr g1), t3', show (0 : Int32) + 1 = nI (0 + 1) from rfl]
      exact (w2 kk _).trans (u2 kk)
theorem told_R {a : Nat} (ha : a < 60) : fX14_heldTold (nI a) 0 ρ = some (zI ρ 1948 0 0 a, ρ) ∧ fX14_heldTold (nI a) 1 ρ = some (zI ρ 1949 0 0 a, ρ) ∧ fX14_heldTold (nI a) 2 ρ = some ((zJ ρ 1950 0 0 (7 * a)).toInt32, ρ) := by
  have g2 : gi (nI a) 60 := (n_gi (by omega)).mpr ha
  have g3 : gi (7 * nI a) 420 := by rw [i_7, n_mul]; exact (n_gi (by omega)).mpr (by omega)
  unfold fX14_heldTold
  refine ⟨?_, ?_, ?_⟩
  · rw [if_pos (by decide), if_pos g2, n_cl (a := a) (by omega)]
  · rw [if_neg (by decide), if_pos (by decide), if_pos g2, n_cl (a := a) (by omega)]
  · rw [if_neg (by decide), if_neg (by decide), if_pos g3, i_7, n_mul, n_cl (by omega)]
theorem dg_hc (h : Rl B P Q S g L d X σ ρ) {j q : Nat} (hj : j < 60) (he : EH1 d X σ ρ j q) : ∃ w, w ≤ 6 ∧ ∀ (k c n m : Nat) (x : Int64), c + k = w → k < n → k < m → ∃ v, (∀ x1, fX6_mixedInto_37 4 q x1 n x (nI c) σ = some (v, σ)) ∧ ∀ kk, fX14_digest_217 kk m x (nI j) (nI c) ρ = kk v (nI (j + 1)) ρ := by
  obtain ⟨w, w6, e1, e2, e3⟩ := held_w h hj he
  refine ⟨w, w6, ?_⟩
  intro k
  induction k with
  | zero =>
    intro c n m x h1 h2 h3
    obtain ⟨n, rfl⟩ : ∃ j, n = j + 1 := ⟨n - 1, by omega⟩
    obtain ⟨m, rfl⟩ : ∃ j, m = j + 1 := ⟨m - 1, by omega⟩
    refine ⟨x, fun x1 => ?_, fun kk => ?_⟩
    · rw [fX6_mixedInto_37, e1, if_pos ((n_le (by omega) (by omega)).mpr (by omega))]
    · rw [fX14_digest_217, bq_e e2, if_pos ((n_le (by omega) (by omega)).mpr (by omega)), i_1, n_add]
  | succ k ih =>
    intro c n m x h1 h2 h3
    obtain ⟨n, rfl⟩ : ∃ j, n = j + 1 := ⟨n - 1, by omega⟩
    obtain ⟨m, rfl⟩ : ∃ j, m = j + 1 := ⟨m - 1, by omega⟩
    have u : fX6_numberAt 4 q (nI c) σ = some (zJ σ 1410 4 q c, σ) := by
      unfold fX6_numberAt
      have c1 : ¬ c < 0 := by omega
      have c2 : ¬ 6 ≤ c := by omega
      have c3 : c < 6 := by omega
      simp (disch := omega) only [i_0, i_6, n_lt, n_le, n_gi, n_cl, c1, c2, c3, ↓reduceIte]
    have g1 : 7 * j + 1 + c < 420 := by omega
    obtain ⟨v, u1, u2⟩ := ih (c + 1) n m (x * 31 + zJ ρ 1950 0 0 (7 * j + 1 + c)) (by omega) (by omega) (by omega)
    refine ⟨v, fun x1 => ?_, fun kk => ?_⟩
    · rw [fX6_mixedInto_37, e1, if_neg (fun z => by have := (n_le (by omega) (by omega)).mp z; omega), bq_e u, e3 c (by omega), i_1, n_add]
      exact u1 x1
    · rw [fX14_digest_217, bq_e e2, if_neg (fun z => by have := (n_le (by omega) (by omega)).mp z; omega), i_7, i_1, n_mul, n_add, n_add, if_pos ((n_gi (by omega)).mpr g1), n_cl (by omega), n_add]
      exact u2 kk
theorem dg_h (h : Rl B P Q S g L d X σ ρ) : ∀ (k j n m : Nat) (x : Int64), j + k = X 5 0 → k < n → k < m → ∃ v, fX11_digest_126 n x (nI j) σ = some (.ok v, σ) ∧ fX14_digest_176 m x (nI j) ρ = some (v, ρ) := by
  obtain ⟨hh1, hh2, hh3, π, p1, p2, p3⟩ := h.2.2.1.2.2.2.2.2.2.1
  have hN := h.n12
  have hFU : FU = 19996 + 4 := rfl
  intro k
  induction k with
  | zero =>
    intro j n m x h1 h2 h3
    obtain ⟨n, rfl⟩ : ∃ j, n = j + 1 := ⟨n - 1, by omega⟩
    obtain ⟨m, rfl⟩ : ∃ j, m = j + 1 := ⟨m - 1, by omega⟩
    refine ⟨x, ?_, ?_⟩
    · rw [fX11_digest_126, hh2, if_pos ((n_le (by omega) (by omega)).mpr (by omega))]
    · rw [fX14_digest_176, hh3, if_pos ((n_le (by omega) (by omega)).mpr (by omega))]
  | succ k ih =>
    intro j n m x h1 h2 h3
    obtain ⟨n, rfl⟩ : ∃ j, n = j + 1 := ⟨n - 1, by omega⟩
    obtain ⟨m, rfl⟩ : ∃ j, m = j + 1 := ⟨m - 1, by omega⟩
    have hj : j < 60 := by omega
    have he := p3 j (by omega)
    obtain ⟨w, w6, hl⟩ := dg_hc h hj he
    obtain ⟨s, t, w', q1, q2, q3, q4, q5, q6, q7, q8, q9⟩ := he
    have hTB : TB s < 2147483648 := by unfold TB; omega
    have q388 : zI σ 388 4 (π j) 0 = zI ρ 1949 0 0 j := by
      rcases q9 with ⟨v1, v2, _⟩ | ⟨c, _, v1, v2, _⟩
      · exact v1.trans v2.symm
      · exact v1.trans v2.symm
    obtain ⟨r0, r1, r2⟩ := told_R (ρ := ρ) hj
    obtain ⟨v, u1, u2⟩ := hl w 0 FU FU ((((x * 31 + (nI s).toInt64) * 31 + (zI ρ 1949 0 0 j).toInt64) * 31) + (nI t).toInt64) (by omega) (by rw [hFU]; omega) (by rw [hFU]; omega)
    obtain ⟨v', y1, y2⟩ := ih (j + 1) n m v (by omega) (by omega) (by omega)
    have hm : fX6_mixedInto (zR σ 1089 0 0 j).1 (zR σ 1089 0 0 j).2 x σ = some (v, σ) := by
      rw [(p1 j hj).2]
      unfold fX6_mixedInto
      rw [q2, q388, q5]
      exact u1 x
    refine ⟨v', ?_, ?_⟩
    · rw [fX11_digest_126, hh2, if_neg (fun z => by have := (n_le (by omega) (by omega)).mp z; omega), if_pos ((n_gi (by omega)).mpr hj), n_cl (show j < 2147483648 by omega), bq_e hm, i_1, n_add]
      exact y1
    · rw [fX14_digest_176, hh3, if_neg (fun z => by have := (n_le (by omega) (by omega)).mp z; omega)]
      rw [show ∀ kk, fX14_digest_187 kk FU x (nI j) 0 ρ = fX14_digest_187 kk (19996 + 4) x (nI j) 0 ρ from fun _ => rfl]
      rw [fX14_digest_187, if_neg (by decide), bq_e r0]
      rw [show ((0 : Int32) + 1) = 1 from rfl, fX14_digest_187, if_neg (by decide), bq_e r1]
      rw [show ((1 : Int32) + 1) = 2 from rfl, fX14_digest_187, if_neg (by decide), bq_e r2]
      rw [show ((2 : Int32) + 1) = 3 from rfl, fX14_digest_187, if_pos (by decide), q3, q6, lN_i]
      exact (u2 _).trans y2
theorem dg_s (h : Rl B P Q S g L d X σ ρ) : ∀ (k y n m : Nat) (x : Int64), y + k = dN d → k < n → k < m → ∃ v, fX11_digest_70 n x (nI y) σ = some (.ok v, σ) ∧ fX14_digest_67 m x (nI y) ρ = some (v, ρ) := by
  have hN := h.n12
  have e1 : (zR σ 707 0 0 0).1 = P := by rw [h.2.2.2.2.2.2.1.1]
  have e2 : (zR ρ 898 0 0 0).1 = g := by rw [h.2.1.2.2.2.2.1]
  have h321 := h.2.1.2.1.1
  have h768 := h.2.1.2.2.1.1
  have hh1 := h.2.2.1.2.2.2.2.2.2.1.1
  intro k
  induction k with
  | zero =>
    intro y n m x h1 h2 h3
    obtain ⟨n, rfl⟩ : ∃ j, n = j + 1 := ⟨n - 1, by omega⟩
    obtain ⟨m, rfl⟩ : ∃ j, m = j + 1 := ⟨m - 1, by omega⟩
    have ff : X 5 0 < FU := by unfold FU; omega
    obtain ⟨v, u1, u2⟩ := dg_h h (X 5 0) 0 FU FU x (by omega) ff ff
    refine ⟨v, ?_, ?_⟩
    · rw [fX11_digest_70, e1, h321, if_pos ((n_le (by omega) (by omega)).mpr (by omega))]
      exact u1
    · rw [fX14_digest_67, e2, h768, if_pos ((n_le (by omega) (by omega)).mpr (by omega))]
      exact u2
  | succ k ih =>
    intro y n m x h1 h2 h3
    obtain ⟨n, rfl⟩ : ∃ j, n = j + 1 := ⟨n - 1, by omega⟩
    obtain ⟨m, rfl⟩ : ∃ j, m = j + 1 := ⟨m - 1, by omega⟩
    have gy : gi (nI y) 12 := (n_gi (by omega)).mpr (by omega)
    obtain ⟨a1, a2, a3, a4, a5⟩ := h.2.2.1.2.2.2.1 y (by omega)
    obtain ⟨b1, b2, b3⟩ := h.2.2.1.2.2.2.2.1 y (by omega)
    have ff : X 0 y < FU := by unfold FU; omega
    obtain ⟨w, w1, w2⟩ := dg_r h (s := y) (by omega) (X 0 y) 0 FU FU ((x * 31 + (wmv (X 3 y)).toInt64) * 31 + (nI (X 0 y)).toInt64) (by omega) ff ff
    obtain ⟨v, u1, u2⟩ := ih (y + 1) n m w (by omega) (by omega) (by omega)
    have hm : fX8_mixedInto P y (x * 31 + (wmv (X 3 y)).toInt64) σ = some (w, σ) := by
      unfold fX8_mixedInto
      rw [a2]
      exact w1 _
    refine ⟨v, ?_, ?_⟩
    · rw [fX11_digest_70, e1, h321, if_neg (fun z => by have := (n_le (by omega) (by omega)).mp z; omega), if_pos gy, if_pos gy, n_cl (show y < 2147483648 by omega), b1, bq_e hm, i_1, n_add]
      exact u1
    · rw [fX14_digest_67, e2, h768, if_neg (fun z => by have := (n_le (by omega) (by omega)).mp z; omega), if_pos gy, if_pos gy, n_cl (show y < 2147483648 by omega), b2, a4]
      exact (w2 _).trans u2
theorem cnt_v (h : Rl B P Q S g L d X σ ρ) {j : Nat} (hj : j < 6) : ∃ v, fX11_count (nI j) σ = some (.ok v, σ) ∧ fX14_counted (nI j) ρ = some (v, ρ) := by
  obtain ⟨hp, ⟨hW, hPC, hPR, hz, hz3, hP⟩, hE, hG, hF, hNm, hRB⟩ := h
  have e1 : (zR σ 707 0 0 0).1 = P := by rw [hRB.1.1]
  have e2 : (zR ρ 898 0 0 0).1 = g := by rw [hz3]
  obtain ⟨hL, hM, _, hT, _⟩ := hRB.2
  obtain ⟨K, m, m1, m2, m3, _⟩ := hM
  obtain ⟨T, f, t1, t2, t3, _⟩ := hT
  obtain ⟨_, x2, x3, _⟩ := hE.2.2.2.2.2.2.1
  unfold fX11_count fX14_counted
  rw [e1, e2]
  have hj' : j = 0 ∨ j = 1 ∨ j = 2 ∨ j = 3 ∨ j = 4 ∨ j = 5 := by omega
  rcases hj' with rfl | rfl | rfl | rfl | rfl | rfl
  · exact ⟨nI (dN d), by rw [if_pos (by decide), hPC.1], by rw [if_pos (by decide), hPR.1]⟩
  · exact ⟨nI (dM d), by rw [if_neg (by decide), if_pos (by decide), hPC.2.1], by rw [if_neg (by decide), if_pos (by decide), hPR.2.1]⟩
  · exact ⟨nI T, by rw [if_neg (by decide), if_neg (by decide), if_pos (by decide), t2], by rw [if_neg (by decide), if_neg (by decide), if_pos (by decide), t3]⟩
  · exact ⟨nI L, by rw [if_neg (by decide), if_neg (by decide), if_neg (by decide), if_pos (by decide), hL.2.1], by rw [if_neg (by decide), if_neg (by decide), if_neg (by decide), if_pos (by decide), hL.2.2.1]⟩
  · exact ⟨nI K, by rw [if_neg (by decide), if_neg (by decide), if_neg (by decide), if_neg (by decide), if_pos (by decide), m2], by rw [if_neg (by decide), if_neg (by decide), if_neg (by decide), if_neg (by decide), if_pos (by decide), m3]⟩
  · exact ⟨nI (X 5 0), by rw [if_neg (by decide), if_neg (by decide), if_neg (by decide), if_neg (by decide), if_neg (by decide), if_pos (by decide), x2], by rw [if_neg (by decide), if_neg (by decide), if_neg (by decide), if_neg (by decide), if_neg (by decide), x3]⟩
theorem dg_6 (h : Rl B P Q S g L d X σ ρ) : ∀ (k y n m : Nat) (x : Int64), y + k = 6 → k < n → k < m → ∃ v, fX11_digest_6 n x (nI y) σ = some (.ok v, σ) ∧ fX14_digest_11 m x (nI y) ρ = some (v, ρ) := by
  have hN := h.n12
  obtain ⟨b, b1, b2, b3⟩ := h.2.2.1.2.2.2.2.2.2.2.2.1.2.1
  have h67 : zI σ 67 0 0 0 = zI ρ 928 0 0 0 := h.2.2.1.2.2.2.2.2.2.2.2.1.1
  intro k
  induction k with
  | zero =>
    intro y n m x h1 h2 h3
    obtain ⟨n, rfl⟩ : ∃ j, n = j + 1 := ⟨n - 1, by omega⟩
    obtain ⟨m, rfl⟩ : ∃ j, m = j + 1 := ⟨m - 1, by omega⟩
    have ff : dN d < FU := by unfold FU; omega
    rw [fX11_digest_6, fX14_digest_11, i_5, i_6, if_pos ((n_lt (by omega) (by omega)).mpr (by omega)), if_pos ((n_le (by omega) (by omega)).mpr (by omega)), b2, b3]
    have hb : b = 0 ∨ b = 1 := by omega
    rcases hb with rfl | rfl
    · rw [if_pos (by rfl), if_pos (by rfl)]
      unfold fX11_digest_50
      rw [h67]
      exact dg_s h (dN d) 0 FU FU _ (by omega) ff ff
    · rw [if_neg (by decide), if_neg (by decide)]
      unfold fX11_digest_50
      rw [h67]
      exact dg_s h (dN d) 0 FU FU _ (by omega) ff ff
  | succ k ih =>
    intro y n m x h1 h2 h3
    obtain ⟨n, rfl⟩ : ∃ j, n = j + 1 := ⟨n - 1, by omega⟩
    obtain ⟨m, rfl⟩ : ∃ j, m = j + 1 := ⟨m - 1, by omega⟩
    obtain ⟨v, u1, u2⟩ := cnt_v h (show y < 6 by omega)
    rw [fX11_digest_6, fX14_digest_11, i_5, i_6, if_neg (fun z => by have := (n_lt (by omega) (by omega)).mp z; omega), if_neg (fun z => by have := (n_le (by omega) (by omega)).mp z; omega), bx_e u1, bq_e u2, i_1, n_add]
    exact ih (y + 1) n m _ (by omega) (by omega) (by omega)
theorem f_digest (h : Rl B P Q S g L d X σ ρ) : ∃ v σ' ρ', fX11_digest σ = some (.ok v, σ') ∧ fX14_digest ρ = some (v, ρ') ∧ Rel B σ' ρ' := by
  have h1 := h.thr (v := 0)
  unfold fX11_digest fX14_digest
  rw [lt_k]
  have ff : 6 < FU := by unfold FU; omega
  obtain ⟨v, u1, u2⟩ := dg_6 h1 6 0 FU FU 281 (by omega) ff ff
  exact ⟨v, σ, _, u1, u2, h1.rel⟩
end DG
