/-! CHANGED, TAKEN, DIGEST -/
theorem min_C {a b : Nat} (ha : a < 1073741824) (hb : b < 1073741824) : p_min (nI a) (nI b) = nI (min a b) := by
  unfold p_min
  by_cases q : b < a
  · rw [if_pos ((n_lt (by omega) (by omega)).mpr q), Nat.min_eq_right (by omega)]
  · rw [if_neg (fun z => q ((n_lt (by omega) (by omega)).mp z)), Nat.min_eq_left (by omega)]
theorem n64_q {y p : Int32} (h : ¬ p = 0) : n64 (FP.ddiv (FP.i2d y) (FP.i2d p)) := by
  have h1 := Jvm.FP.Core.i2d_big (Jvm.FP.Core.int32_ne h)
  have h2 := Jvm.FP.Core.i2d_mag y
  have h3 := Jvm.FP.Core.ddiv_mag h2 h1.1 h1.2 (by decide) (by decide)
  have h4 := Jvm.FP.Core.mask_toNat (FP.ddiv (FP.i2d y) (FP.i2d p))
  have h5 : (0x7ff0000000000000 : UInt64).toNat = 2047 * 2 ^ 52 := by decide
  show _ ≤ _
  rw [UInt64.le_iff_toNat_le, h4, h5]
  exact Nat.le_of_lt (Nat.lt_of_lt_of_le h3 (by decide))
theorem row_R {s i : Nat} {ρ : Zs} : fX14_rowAt (nI s) (nI i) ρ = some (nI ((200 * s + i) * 7), ρ) := by
  unfold fX14_rowAt
  rw [i_200, i_7, n_mul, n_add, n_mul]
section TL
variable {B P Q S g L N : Nat} {d : Pd} {X : Nat → Nat → Nat} {σ ρ : Zs}
theorem taken_l (h : Rl B P Q S g L d X σ ρ) : ∀ (k y n m : Nat) (x : Int32), y + k = dN d → k < n → k < m → ∃ v, fX11_taken_4 n x (nI y) σ = some (v, σ) ∧ fX14_taken_9 m x (nI y) ρ = some (v, ρ) := by
  have hN := h.n12
  have e1 : (zR σ 707 0 0 0).1 = P := by rw [h.2.2.2.2.2.2.1.1]
  have e2 : (zR ρ 898 0 0 0).1 = g := by rw [h.2.1.2.2.2.2.1]
  have h321 := h.2.1.2.1.1
  have h768 := h.2.1.2.2.1.1
  have h69 : zI σ 69 0 0 0 = zI ρ 931 0 0 0 := h.2.2.1.2.2.2.2.2.2.2.2.1.2.2
  intro k
  induction k with
  | zero =>
    intro y n m x h1 h2 h3
    obtain ⟨n, rfl⟩ : ∃ j, n = j + 1 := ⟨n - 1, by omega⟩
    obtain ⟨m, rfl⟩ : ∃ j, m = j + 1 := ⟨m - 1, by omega⟩
    have b1 : dN d ≤ y := by omega
    have c1 : (nI (dN d) : Int32) ≤ nI y := (n_le (by omega) (by omega)).mpr b1
    rw [fX11_taken_4, fX14_taken_9, e1, e2, h321, h768, h69, if_pos c1, if_pos c1]
    by_cases q : zI ρ 931 0 0 0 = 0
    · rw [if_pos q, if_pos q]; exact ⟨_, rfl, rfl⟩
    · rw [if_neg q, if_neg q, if_pos (n64_q q), if_pos (n64_q q)]; exact ⟨_, rfl, rfl⟩
  | succ k ih =>
    intro y n m x h1 h2 h3
    obtain ⟨n, rfl⟩ : ∃ j, n = j + 1 := ⟨n - 1, by omega⟩
    obtain ⟨m, rfl⟩ : ∃ j, m = j + 1 := ⟨m - 1, by omega⟩
    have b1 : ¬ dN d ≤ y := by omega
    have b2 : y < 12 := by omega
    have hC := (h.2.1.2.1.2.2.choose_spec.2.2.1 y (by omega)).2.1
    have hR := (h.2.1.2.2.1.2.2.1 y (by omega)).2.1
    obtain ⟨a1, a2, a3, a4, a5⟩ := h.2.2.1.2.2.2.1 y (by omega)
    rw [fX11_taken_4, fX14_taken_9]
    simp (disch := omega) only [e1, e2, h321, h768, i_1, n_le, n_gi, n_cl, n_add, b1, b2, hC, hR, a2, a4, Int32.add_zero, ↓reduceIte]
    by_cases q : (nI (dK d y) : Int32) = 0
    · simp only [if_pos q]
      exact ih (y + 1) n m _ (by omega) (by omega) (by omega)
    · simp only [if_neg q]
      exact ih (y + 1) n m _ (by omega) (by omega) (by omega)
theorem f_taken (h : Rl B P Q S g L d X σ ρ) : Fp B (fX11_taken σ) (fX14_taken ρ) := by
  have h1 := h.thr (v := 0)
  have hN := h.n12
  unfold fX11_taken fX14_taken
  rw [lt_k]
  have ff : dN d < FU := by unfold FU; omega
  obtain ⟨v, u1, u2⟩ := taken_l h1 (dN d) 0 FU FU 0 (by omega) ff ff
  exact ⟨v, σ, _, u1, u2, h1.rel⟩
/-! changed -/
theorem chg0 {s o i m : Nat} {y3 : Int32} {kk : Int32 → Int32 → Int32 → Zs → Option (Int32 × Zs)} {y6 : Int32} (ho : o < 12) : fX14_changed_123 (nI s) kk (m + 1) (nI o) y3 (nI i) 0 y6 ρ = kk (nI o) (y3 + nI 1) (nI (i + 1)) ρ := by
  rw [fX14_changed_123, if_pos ((n_gi (by omega)).mpr ho), if00]
  unfold fX14_changed_184
  rw [if00, i_1, n_add]
  exact ite_self _
theorem chg_n {s o i W r r2 : Nat} (a1 : zI σ 512 P s 0 = nI r) (a2 : zI σ 513 P s 0 = nI W) (b1 : zI σ 512 Q o 0 = nI r2) (b2 : zI σ 513 Q o 0 = nI W) (b3 : zI ρ 1976 0 0 o = nI W) (hr : r ≤ 200) (hr2 : r2 ≤ 200) (hi : i < r) (hi2 : i < r2) (hW : W ≤ 6) (hs : s < 12) (ho : o < 12)
    (hA : ∀ c, c < W → zJ σ 1539 P s (i * 6 + c) = zJ ρ 1940 0 0 ((200 * s + i) * 7 + 1 + c)) (hB : ∀ c, c < W → zJ σ 1539 Q o (i * 6 + c) = zJ ρ 1978 0 0 ((200 * o + i) * 7 + 1 + c)) (kk : Int32 → Int32 → Int32 → Zs → Option (Int32 × Zs)) :
    ∀ (k c n m : Nat), c + k = W → k < n → k + 1 < m → ∃ e, e ≤ 1 ∧ fX8_hasSameRow_28 P s Q o (nI i) n (nI c) σ = some (nI e, σ) ∧ ∀ y3, fX14_changed_123 (nI s) kk m (nI o) y3 (nI i) 1 (nI (c + 1)) ρ = kk (nI o) (y3 + nI (1 - e)) (nI (i + 1)) ρ := by
  intro k
  induction k with
  | zero =>
    intro c n m h1 h2 h3
    obtain ⟨n, rfl⟩ : ∃ j, n = j + 1 := ⟨n - 1, by omega⟩
    obtain ⟨m, rfl⟩ : ∃ j, m = j + 1 := ⟨m - 1, by omega⟩
    refine ⟨1, Nat.le_refl _, ?_, fun y3 => ?_⟩
    · rw [fX8_hasSameRow_28, a2, if_pos ((n_le (by omega) (by omega)).mpr (by omega))]; rfl
    · rw [fX14_changed_123, if_pos ((n_gi (by omega)).mpr ho), n_cl (by omega), b3, if_pos ((n_lt (by omega) (by omega)).mpr (by omega))]
      unfold fX14_changed_184
      rw [if10, i_1, n_add]; rfl
  | succ k ih =>
    intro c n m h1 h2 h3
    obtain ⟨n, rfl⟩ : ∃ j, n = j + 1 := ⟨n - 1, by omega⟩
    obtain ⟨m, rfl⟩ : ∃ j, m = j + 2 := ⟨m - 2, by omega⟩
    have t1 := tab_num (σ := σ) a1 a2 hr hi hW (show c < W by omega)
    have t2 := tab_num (σ := σ) b1 b2 hr2 hi2 hW (show c < W by omega)
    have g1 : (200 * s + i) * 7 + (c + 1) < 16800 := by omega
    have g2 : (200 * o + i) * 7 + (c + 1) < 16800 := by omega
    have hL : ∀ y3, fX14_changed_123 (nI s) kk (m + 2) (nI o) y3 (nI i) 1 (nI (c + 1)) ρ = if (lg_cmp (zJ ρ 1940 0 0 ((200 * s + i) * 7 + (c + 1))) (zJ ρ 1978 0 0 ((200 * o + i) * 7 + (c + 1))) : Int32) = 0 then fX14_changed_123 (nI s) kk (m + 1) (nI o) y3 (nI i) 1 (nI (c + 1 + 1)) ρ else fX14_changed_123 (nI s) kk (m + 1) (nI o) y3 (nI i) 0 (nI (c + 1 + 1)) ρ := fun y3 => by
      rw [fX14_changed_123, if_pos ((n_gi (by omega)).mpr ho), n_cl (show o < 2147483648 by omega), b3, if_neg (fun z => by have := (n_lt (by omega) (by omega)).mp z; omega), if10, bq_e row_R]
      rw [n_add, if_pos ((n_gi (by omega)).mpr g1), bq_e row_R, n_add, if_pos ((n_gi (by omega)).mpr g2), n_cl (by omega), n_cl (by omega), i_1, n_add]
    have eA := hA c (by omega)
    have eB := hB c (by omega)
    rw [Nat.add_assoc, Nat.add_comm 1 c] at eA eB
    rw [fX8_hasSameRow_28, a2, if_neg (fun z => by have := (n_le (by omega) (by omega)).mp z; omega), bq_e t1, bq_e t2, eA, eB]
    by_cases q : (lg_cmp (zJ ρ 1940 0 0 ((200 * s + i) * 7 + (c + 1))) (zJ ρ 1978 0 0 ((200 * o + i) * 7 + (c + 1))) : Int32) = 0
    · obtain ⟨e, e1, e2, e3⟩ := ih (c + 1) n (m + 1) (by omega) (by omega) (by omega)
      refine ⟨e, e1, ?_, fun y3 => ?_⟩
      · rw [if_pos q, i_1, n_add]; exact e2
      · rw [hL, if_pos q]; exact e3 y3
    · refine ⟨0, Nat.zero_le _, ?_, fun y3 => ?_⟩
      · rw [if_neg q]; rfl
      · rw [hL, if_neg q]; exact chg0 ho
theorem chg_l (h : Rl B P Q S g L d X σ ρ) {s o w r2 : Nat} (hs : s < dN d) (ho : o < 12) (hO : ROld1 Q o w r2 σ ρ) : ∀ (k i n m : Nat), i + k = min (X 0 s) r2 → k < n → k < m → ∀ y3, ∃ v, fX8_countDifferences_29 P s Q o n (nI (min (X 0 s) r2)) y3 (nI i) σ = some (v, σ) ∧ fX14_changed_73 (nI s) m (nI o) y3 (nI i) ρ = some (v, ρ) := by
  have hN := h.n12
  obtain ⟨a1, a2, a3, a4, a5⟩ := h.2.2.1.2.2.2.1 s hs
  obtain ⟨b1, b2, b3, b4, b5, b6, b7, b8⟩ := hO
  have hW6 := h.2.1.1.w6 hs
  have hz3 := h.2.1.2.2.2.2.1
  have h1795 := (h.2.1.2.2.1.2.2.1 s hs).2.2.1
  have gs : gi (nI s) 12 := (n_gi (by omega)).mpr (by omega)
  have go : gi (nI o) 12 := (n_gi (by omega)).mpr ho
  have h41 : zI ρ 1941 0 0 (Int32.toNatClampNeg (nI s)) = nI (X 0 s) := by rw [n_cl (by omega)]; exact a4
  have h77 : zI ρ 1977 0 0 (Int32.toNatClampNeg (nI o)) = nI r2 := by rw [n_cl (by omega)]; exact b7
  have h76 : zI ρ 1976 0 0 (Int32.toNatClampNeg (nI o)) = nI w := by rw [n_cl (by omega)]; exact b5
  have h95 : zI ρ 1795 (zR ρ 898 0 0 0).1 0 (Int32.toNatClampNeg (nI s)) = nI (dW d s) := by rw [n_cl (by omega), hz3]; exact h1795
  intro k
  induction k with
  | zero =>
    intro i n m h1 h2 h3 y3
    obtain ⟨n, rfl⟩ : ∃ j, n = j + 1 := ⟨n - 1, by omega⟩
    obtain ⟨m, rfl⟩ : ∃ j, m = j + 1 := ⟨m - 1, by omega⟩
    refine ⟨y3, ?_, ?_⟩
    · rw [fX8_countDifferences_29, if_pos ((n_le (by omega) (by omega)).mpr (by omega))]
    · rw [fX14_changed_73, if_pos gs, h41, if_pos go, h77]
      by_cases q : X 0 s ≤ i
      · rw [if_pos ((n_le (by omega) (by omega)).mpr q)]
      · rw [if_neg (fun z => q ((n_le (by omega) (by omega)).mp z)), if_pos ((n_le (by omega) (by omega)).mpr (by omega))]
  | succ k ih =>
    intro i n m h1 h2 h3 y3
    obtain ⟨n, rfl⟩ : ∃ j, n = j + 1 := ⟨n - 1, by omega⟩
    obtain ⟨m, rfl⟩ : ∃ j, m = j + 1 := ⟨m - 1, by omega⟩
    have q1 : ¬ X 0 s ≤ i := by omega
    have q2 : ¬ r2 ≤ i := by omega
    obtain ⟨⟨t, t1, t2, t3⟩, t4⟩ := a5 i (by omega)
    obtain ⟨⟨u, u1, u2, u3⟩, u4⟩ := b8 i (by omega)
    have hTB : TB s < 2147483648 := by unfold TB; omega
    have fin : ∀ e, e ≤ 1 → fX8_hasSameRow P s Q o (nI i) σ = some (nI e, σ) → fX14_changed_73 (nI s) (m + 1) (nI o) y3 (nI i) ρ = fX14_changed_73 (nI s) m (nI o) (y3 + nI (1 - e)) (nI (i + 1)) ρ → ∃ v, fX8_countDifferences_29 P s Q o (n + 1) (nI (min (X 0 s) r2)) y3 (nI i) σ = some (v, σ) ∧ fX14_changed_73 (nI s) (m + 1) (nI o) y3 (nI i) ρ = some (v, ρ) := by
      intro e e1 e2 e3
      rw [e3, fX8_countDifferences_29, if_neg (fun z => by have := (n_le (by omega) (by omega)).mp z; omega), bq_e e2, i_1, n_add]
      have : e = 0 ∨ e = 1 := by omega
      rcases this with rfl | rfl
      · rw [if_pos (by rfl)]
        exact ih (i + 1) n m (by omega) (by omega) (by omega) _
      · rw [if_neg (by decide)]
        have e0 : y3 + nI (1 - 1) = y3 := Int32.add_zero _
        rw [e0]
        exact ih (i + 1) n m (by omega) (by omega) (by omega) _
    have hL : fX14_changed_73 (nI s) (m + 1) (nI o) y3 (nI i) ρ = if (nI (dW d s) : Int32) = nI w then fX14_changed_123 (nI s) (fun by2 by3 by4 ρb => fX14_changed_73 (nI s) m by2 by3 by4 ρb) FU (nI o) y3 (nI i) 1 0 ρ else fX14_changed_123 (nI s) (fun by2 by3 by4 ρb => fX14_changed_73 (nI s) m by2 by3 by4 ρb) FU (nI o) y3 (nI i) 0 0 ρ := by
      rw [fX14_changed_73, if_pos gs, h41, if_pos go, h77, if_neg (fun z => q1 ((n_le (by omega) (by omega)).mp z)), if_neg (fun z => q2 ((n_le (by omega) (by omega)).mp z)), if_pos gs, if_pos go, h95, h76]
    have hFU : FU = 19999 + 1 := rfl
    by_cases q : (nI (dW d s) : Int32) = nI w
    · have qw : dW d s = w := (n_eq (by omega) (by omega)).mp q
      subst qw
      have tt1 := tab_time (σ := σ) a2 a1 (show i < X 0 s by omega)
      have tt2 := tab_time (σ := σ) b6 b3 (show i < r2 by omega)
      have hH : fX8_hasSameRow P s Q o (nI i) σ = if (nI t : Int32) = nI u then fX8_hasSameRow_28 P s Q o (nI i) FU 0 σ else some (0, σ) := by
        unfold fX8_hasSameRow
        rw [a3, b4, if_pos rfl, bq_e tt1, bq_e tt2, t2, u2]
      have g1 : (200 * s + i) * 7 + 0 < 16800 := by omega
      have g2 : (200 * o + i) * 7 + 0 < 16800 := by omega
      have hM : fX14_changed_123 (nI s) (fun by2 by3 by4 ρb => fX14_changed_73 (nI s) m by2 by3 by4 ρb) FU (nI o) y3 (nI i) 1 0 ρ = if (lg_cmp (lN t) (lN u) : Int32) = 0 then fX14_changed_123 (nI s) (fun by2 by3 by4 ρb => fX14_changed_73 (nI s) m by2 by3 by4 ρb) 19999 (nI o) y3 (nI i) 1 (nI (0 + 1)) ρ else fX14_changed_123 (nI s) (fun by2 by3 by4 ρb => fX14_changed_73 (nI s) m by2 by3 by4 ρb) 19999 (nI o) y3 (nI i) 0 (nI (0 + 1)) ρ := by
        have t3' : zJ ρ 1940 0 0 (Int32.toNatClampNeg (nI ((200 * s + i) * 7))) = lN t := by rw [n_cl (by omega)]; exact t3
        have u3' : zJ ρ 1978 0 0 (Int32.toNatClampNeg (nI ((200 * o + i) * 7))) = lN u := by rw [n_cl (by omega)]; exact u3
        rw [hFU, fX14_changed_123, if_pos go, h76, if_neg (show ¬ (nI (dW d s) : Int32) < 0 by rw [i_0, n_lt (by omega) (by omega)]; omega), if10, bq_e row_R, Int32.add_zero, if_pos ((n_gi (by omega)).mpr (by omega)), bq_e row_R, Int32.add_zero, if_pos ((n_gi (by omega)).mpr (by omega)), t3', u3']
        rfl
      by_cases qt : t = u
      · subst qt
        obtain ⟨e, e1, e2, e3⟩ := chg_n (σ := σ) (ρ := ρ) a2 a3 b6 b4 b5 a1 b3 (show i < X 0 s by omega) (show i < r2 by omega) hW6 (by omega) ho t4 u4 (fun by2 by3 by4 ρb => fX14_changed_73 (nI s) m by2 by3 by4 ρb) (dW d s) 0 FU 19999 (by omega) (by rw [hFU]; omega) (by omega)
        refine fin e e1 ?_ ?_
        · rw [hH, if_pos rfl]; exact e2
        · rw [hL, if_pos rfl, hM, if_pos (l_cmp0.mpr rfl)]; exact e3 y3
      · refine fin 0 (Nat.zero_le _) ?_ ?_
        · rw [hH, if_neg (fun z => qt ((n_eq (by omega) (by omega)).mp z))]; rfl
        · rw [hL, if_pos rfl, hM, if_neg (fun z => qt ?_)]
          · exact chg0 (m := 19998) ho
          · have := l_cmp0.mp z
            exact lN_inj (by omega) (by omega) this
    · refine fin 0 (Nat.zero_le _) ?_ ?_
      · unfold fX8_hasSameRow
        rw [a3, b4, if_neg q]; rfl
      · rw [hL, if_neg q, hFU]
        exact chg0 (m := 19999) ho
theorem f_changed (h : Rl B P Q S g L d X σ ρ) (x : Int32) : Fc B ["java/lang/IndexOutOfBoundsException"] (fX11_changed x σ) (fX14_changed x ρ) := by
  have h1 := h.thr (v := 0)
  have hN := h.n12
  unfold fX11_changed fX14_changed
  rw [lt_k]
  rcases h1.at x with ⟨s, hs, rfl, k1, k2⟩ | ⟨k1, k2⟩
  · have g2 : gi (nI s) 12 := (n_gi (by omega)).mpr (show s < 12 by omega)
    obtain ⟨a1, a2, a3, a4, a5⟩ := h1.2.2.1.2.2.2.1 s hs
    have hCs := h1.2.1.2.1.2.2.choose_spec.2.2.1 s hs
    have hRs := h1.2.1.2.2.1.2.2.1 s hs
    have h448 : zJ σ 448 (P, s).1 (P, s).2 0 = dNm d s := hCs.1
    have e2 : (zR (sI ρ 896 0 0 0 0) 898 0 0 0).1 = g := by rw [h1.2.1.2.2.2.2.1]
    have e3 : (zR σ 708 0 0 0).1 = Q := by rw [h1.2.2.2.2.2.2.1.2.1]
    obtain ⟨o, o1, o2, o3, o4⟩ := h1.2.2.2.2.2.2.2.2.2.2.2.1
    have h93 : zJ (sI ρ 896 0 0 0 0) 1793 g 0 (Int32.toNatClampNeg (nI s)) = dNm d s := by rw [n_cl (by omega)]; exact hRs.1
    have h41 : zI (sI ρ 896 0 0 0 0) 1941 0 0 (Int32.toNatClampNeg (nI s)) = nI (X 0 s) := by rw [n_cl (by omega)]; exact a4
    rw [bx_e k1, bq_e k2, if10, if_pos g2, e2, e3, h448, h93, o3]
    rw [bq_e (name_C (N := o) (by omega) o2)]
    have hn := name_R (c := 1975) (p := 0) (s := 0) (n0 := 12) (off := 0) (N := o) (w := dNm d s) (ρ := sI ρ 896 0 0 0 0) (by omega) (by decide) (by omega)
    rw [nix_c (f := fun i => zJ (sI ρ 896 0 0 0 0) 1975 0 0 (0 + i)) (g := fun s => zJ σ 448 Q s 0) _ _ (fun j _ hj => by
      obtain ⟨w, r, hO⟩ := o4 j (by omega)
      rw [Nat.zero_add]; exact hO.1.symm)] at hn
    rw [bq_e (show fX14_indexOf 1975 0 0 12 0 (nI o) (dNm d s) (sI ρ 896 0 0 0 0) = _ from hn)]
    rcases nix_s (f := fun s => zJ σ 448 Q s 0) (w := dNm d s) o 0 with ⟨e, _⟩ | ⟨j, _, hj, _, e, _⟩
    · rw [e, if_pos (show (-nI 1 : Int32) < 0 by decide), if_pos (show (-nI 1 : Int32) = -1 from rfl), if_pos g2, h41]
      exact h1.yes rfl (congrArg (fun v => some (v, _)) a2.symm) rfl
    · have g3 : gi (nI j) 12 := (n_gi (by omega)).mpr (by omega)
      obtain ⟨w, r, hO⟩ := o4 j (by omega)
      obtain ⟨b1, b2, b3, b4, b5, b6, b7, b8⟩ := id hO
      rw [e, if_neg (show ¬ (nI j : Int32) < 0 by rw [i_0, n_lt (by omega) (by omega)]; omega), e3, o2, if_pos ((n_lt (by omega) (by omega)).mpr (by omega)), if_pos g3, if_neg (n_mx (a := j) (by omega)), if_pos g2, if_pos g3, h41, show zI (sI ρ 896 0 0 0 0) 1977 0 0 (Int32.toNatClampNeg (nI j)) = nI r by rw [n_cl (by omega)]; exact b7]
      have ff : min (X 0 s) r < FU := by unfold FU; omega
      have eab : p_abs (nI (X 0 s) - nI r) = nI (max (X 0 s) r - min (X 0 s) r) := by
        rw [abs_C (by omega) (by omega)]
        congr 1
        split <;> omega
      obtain ⟨v, u1, u2⟩ := chg_l h1 hs (show j < 12 by omega) hO (min (X 0 s) r) 0 FU FU (by omega) ff ff (nI (max (X 0 s) r - min (X 0 s) r))
      have hcd : fX8_countDifferences (P, s).1 (P, s).2 Q (Int32.toNatClampNeg (nI j)) σ = some (v, σ) := by
        rw [n_cl (by omega)]
        unfold fX8_countDifferences
        show fX8_countDifferences_29 P s Q j FU (p_min (zI σ 512 P s 0) (zI σ 512 Q j 0)) (p_max (zI σ 512 P s 0) (zI σ 512 Q j 0) - p_min (zI σ 512 P s 0) (zI σ 512 Q j 0)) 0 σ = _
        rw [a2, b6, min_C (by omega) (by omega), max_C (by omega) (by omega), n_sub (by omega)]
        exact u1
      rw [bq_e hcd, eab, show fX14_changed_73 (nI s) FU (nI j) (nI (max (X 0 s) r - min (X 0 s) r)) 0 (sI ρ 896 0 0 0 0) = _ from u2]
      exact h1.yes rfl rfl rfl
  · rw [bx_x k1, bq_e k2, if00, fail_R, bq_s]
    exact h1.no rfl rfl (List.mem_singleton.mpr rfl) rfl
end TL
