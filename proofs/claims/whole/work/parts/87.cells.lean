/-! CELLS, HELD ROWS -/
theorem isInm_x {x : Int32} {N : Nat} (hN : N < 2147483648) : ((x = -nI 1 ∨ ∃ a, a < N ∧ x = nI a) ∧ ∀ ρ, fX14_isIn x.toInt64 (-1) ((nI N - 1 : Int32).toInt64) ρ = some (1, ρ)) ∨ ((x < -1 ∨ ∃ a, a < 2147483648 ∧ N ≤ a ∧ x = nI a) ∧ ∀ ρ, fX14_isIn x.toInt64 (-1) ((nI N - 1 : Int32).toInt64) ρ = some (0, ρ)) := by
  have hb : ((nI N - 1 : Int32).toInt64).toInt = (N : Int) - 1 := by
    rw [Int32.toInt_toInt64, nb1 hN]
  have hm : (-1 : Int64).toInt = -1 := rfl
  have hm2 : (-1 : Int32).toInt = -1 := rfl
  have d1 : (lg_cmp x.toInt64 (-1) : Int32) < 0 ↔ x.toInt < -1 := by
    rw [l_cmplt, Int64.lt_iff_toInt_lt, Int32.toInt_toInt64, hm]
  have d2 : 0 < (lg_cmp x.toInt64 ((nI N - 1 : Int32).toInt64) : Int32) ↔ (N : Int) - 1 < x.toInt := by
    rw [l_cmpgt, Int64.lt_iff_toInt_lt, hb, Int32.toInt_toInt64]
  unfold fX14_isIn
  rcases i32_c x with q | ⟨a, ha, rfl⟩
  · rw [Int32.lt_iff_toInt_lt] at q
    have h0 : (0 : Int32).toInt = 0 := rfl
    by_cases e : x.toInt < -1
    · refine Or.inr ⟨Or.inl (by rw [Int32.lt_iff_toInt_lt, hm2]; exact e), fun ρ => ?_⟩
      rw [if_pos (d1.mpr e)]
    · refine Or.inl ⟨Or.inl ?_, fun ρ => ?_⟩
      · apply Int32.toInt_inj.mp
        rw [n_m1i]; omega
      · rw [if_neg (fun z => e (d1.mp z)), if_neg]
        rw [d2]; omega
  · have hx : (nI a).toInt = a := nI_toInt ha
    by_cases e : a < N
    · refine Or.inl ⟨Or.inr ⟨a, e, rfl⟩, fun ρ => ?_⟩
      rw [if_neg, if_neg]
      · rw [d2, hx]; omega
      · rw [d1, hx]; omega
    · refine Or.inr ⟨Or.inr ⟨a, ha, by omega, rfl⟩, fun ρ => ?_⟩
      rw [if_neg, if_pos]
      · rw [d2, hx]; omega
      · rw [d1, hx]; omega
section CE
variable {B P Q S g L N : Nat} {d : Pd} {X : Nat → Nat → Nat} {σ ρ : Zs}
theorem cell1 {x y z : Int32} : fX14_cell_55 x y z 1 ρ = some (0, sI ρ 896 0 0 0 1) := by
  unfold fX14_cell_55
  rw [lt_k, if_neg]
  show ¬ (1 : Int32) = 0
  decide
theorem f_cell (h : Rl B P Q S g L d X σ ρ) (x y z : Int32) : Fc B ["java/lang/IndexOutOfBoundsException"] (fX11_cell x y z σ) (fX14_cell x y z ρ) := by
  have hN := h.n12
  have h0 := h.thr (v := 0)
  unfold fX11_cell fX14_cell
  rcases h.at x with ⟨s, hs, rfl, k1, k2⟩ | ⟨k1, k2⟩
  · have b2 : s < 12 := by omega
    have g2 : gi (nI s) 12 := (n_gi (by omega)).mpr b2
    obtain ⟨a1, a2, a3, a4, a5⟩ := h.2.2.1.2.2.2.1 s hs
    have hW6 := h.2.1.1.w6 hs
    have hz3 := h.2.1.2.2.2.2.1
    have h1795 := (h.2.1.2.2.1.2.2.1 s hs).2.2.1
    have e4 : zI ρ 1941 0 0 (Int32.toNatClampNeg (nI s)) = nI (X 0 s) := by rw [n_cl (by omega)]; exact a4
    have e95 : zI ρ 1795 (zR ρ 898 0 0 0).1 0 (Int32.toNatClampNeg (nI s)) = nI (dW d s) := by rw [n_cl (by omega), hz3]; exact h1795
    rw [bx_e k1, bq_e k2, if10, if_pos g2, e4]
    rcases isIn_x (x := y) (N := X 0 s) (by omega) with ⟨r, hr, rfl, k⟩ | ⟨q, k⟩
    · rw [bq_e (k _), if10, if_pos g2]
      rw [e95]
      have c1 : ¬ (nI r : Int32) < 0 := by rw [i_0, n_lt (by omega) (by omega)]; omega
      have c2 : ¬ zI σ 512 (P, s).1 (P, s).2 0 ≤ nI r := by
        show ¬ zI σ 512 P s 0 ≤ nI r
        rw [a2, n_le (by omega) (by omega)]; omega
      rw [if_neg c1, if_neg c2]
      obtain ⟨⟨t, t1, t2, t3⟩, t4⟩ := a5 r hr
      have hTB : TB s < 2147483648 := by unfold TB; omega
      have c60 : fX14_cell_55 (nI s) (nI r) z 0 ρ = (if gi ((nI ((200 * s + r) * 7) + 1) + z) 16800 then some ((zJ ρ 1940 0 0 (Int32.toNatClampNeg ((nI ((200 * s + r) * 7) + 1) + z))), sI ρ 896 0 0 0 0) else none) := by
        unfold fX14_cell_55 fX14_rowAt
        rw [lt_k, if_pos (by rfl), bq_s]
        have i200 : (200 : Int32) = nI 200 := rfl
        rw [i200, i_7, n_mul, n_add, n_mul]
        rfl
      rcases isInm_x (x := z) (N := dW d s) (by omega) with ⟨q, k⟩ | ⟨q, k⟩
      · rw [bq_e (k _), if10, c60]
        rcases q with rfl | ⟨c, hc, rfl⟩
        · have e1 : nI ((200 * s + r) * 7) + 1 + -nI 1 = nI ((200 * s + r) * 7) := by rw [i_1, n_add, n_p1 (by omega), Nat.add_sub_cancel]
          rw [e1, if_pos ((n_gi (by omega)).mpr (by omega)), n_cl (by omega), t3]
          have c3 : ¬ (-nI 1 : Int32) < -1 := by decide
          have c4 : (-nI 1 : Int32) < zI σ 513 (P, s).1 (P, s).2 0 := by
            show (-nI 1 : Int32) < zI σ 513 P s 0
            rw [a3, Int32.lt_iff_toInt_lt, n_m1i, nI_toInt (by omega)]; omega
          have c5 : ¬ (0 : Int32) ≤ -nI 1 := by decide
          rw [if_neg c3, if_pos c4, if_neg c5]
          have u : fX8_timeOf P s (nI r) σ = some (nI t, σ) := by
            unfold fX8_timeOf
            have c6 : r < 200 := by omega
            have c7 : ¬ X 0 s ≤ r := by omega
            rw [if_neg c1]
            simp (disch := omega) only [a2, n_le, n_gi, n_cl, c6, c7, t2, ↓reduceIte]
          rw [bq_e (by exact u), n_i64 (by omega)]
          exact h0.yes rfl rfl rfl
        · have e1 : nI ((200 * s + r) * 7) + 1 + nI c = nI ((200 * s + r) * 7 + 1 + c) := by rw [i_1, n_add, n_add]
          rw [e1, if_pos ((n_gi (by omega)).mpr (by omega)), n_cl (by omega)]
          have c3 : ¬ (nI c : Int32) < -1 := by
            rw [Int32.lt_iff_toInt_lt, nI_toInt (by omega)]
            have : (-1 : Int32).toInt = -1 := rfl
            omega
          have c4 : (nI c : Int32) < zI σ 513 (P, s).1 (P, s).2 0 := by
            show (nI c : Int32) < zI σ 513 P s 0
            rw [a3, n_lt (by omega) (by omega)]; exact hc
          have c5 : (0 : Int32) ≤ nI c := by rw [i_0, n_le (by omega) (by omega)]; omega
          rw [if_neg c3, if_pos c4, if_pos c5]
          have u : fX8_numberOf P s (nI r) (nI c) σ = some (zJ σ 1539 P s (r * 6 + c), σ) := by
            unfold fX8_numberOf
            have c6 : c < 6 := by omega
            have c7 : ¬ X 0 s ≤ r := by omega
            have c8 : ¬ dW d s ≤ c := by omega
            have c9 : ¬ c < 0 := by omega
            have c10 : r * 6 + c < 1200 := by omega
            rw [if_neg c1]
            simp (disch := omega) only [a2, a3, i_0, i_6, n_mul, n_add, n_lt, n_le, n_gi, n_cl, c6, c7, c8, c9, c10, ↓reduceIte]
          rw [bq_e (by exact u), t4 c hc]
          exact h0.yes rfl rfl rfl
      · rw [bq_e (k _), if00, cell1]
        refine h.no (E := "java/lang/IndexOutOfBoundsException") ?_ rfl (List.mem_singleton.mpr rfl) rfl
        rcases q with q | ⟨c, hc1, hc2, rfl⟩
        · rw [if_pos q]
        · rw [if_neg, if_neg]
          · show ¬ (nI c : Int32) < zI σ 513 P s 0
            rw [a3, n_lt (by omega) (by omega)]; omega
          · rw [Int32.lt_iff_toInt_lt, nI_toInt (by omega)]
            have : (-1 : Int32).toInt = -1 := rfl
            omega
    · rw [bq_e (k _), if00, cell1]
      refine h.no (E := "java/lang/IndexOutOfBoundsException") ?_ rfl (List.mem_singleton.mpr rfl) rfl
      rcases q with q | ⟨c, hc1, hc2, rfl⟩
      · rw [if_pos q]
      · rw [if_neg, if_pos]
        · show zI σ 512 P s 0 ≤ nI c
          rw [a2, n_le (by omega) (by omega)]; exact hc2
        · rw [i_0, n_lt (by omega) (by omega)]; omega
  · rw [bx_x k1, bq_e k2, if00, cell1]
    exact h.no rfl rfl (List.mem_singleton.mpr rfl) rfl
/-- a held row that is asked for -/
theorem Rl.hd (h : Rl B P Q S g L d X σ ρ) (x : Int32) : (∃ a q, a < X 5 0 ∧ a < 60 ∧ x = nI a ∧ fX11_heldRowAt x σ = some (.ok (4, q), σ) ∧ fX11_testHeldPlace x σ = some (.ok (), σ) ∧ fX14_isHeld x ρ = some (1, ρ) ∧ EH1 d X σ ρ a q) ∨ (fX11_heldRowAt x σ = some (.error "java/lang/IndexOutOfBoundsException", σ) ∧ fX11_testHeldPlace x σ = some (.error "java/lang/IndexOutOfBoundsException", σ) ∧ fX14_isHeld x ρ = some (0, ρ)) := by
  obtain ⟨hh1, hh2, hh3, π, p1, p2, p3⟩ := h.2.2.1.2.2.2.2.2.2.1
  unfold fX11_heldRowAt fX11_testHeldPlace fX14_isHeld
  rw [hh2, hh3]
  rcases isIn_x (x := x) (N := X 5 0) (by omega) with ⟨a, ha, rfl, k⟩ | ⟨q, k⟩
  · refine Or.inl ⟨a, π a, ha, by omega, rfl, ?_, ?_, ?_, p3 a ha⟩
    · rw [in_C (by omega) ha, bx_e rfl, if_pos ((n_gi (by omega)).mpr (by omega)), n_cl (by omega), (p1 a (by omega)).2]
    · rw [in_C (by omega) ha]
    · rw [bq_e (k ρ), if_pos (Or.inr rfl)]
  · refine Or.inr ⟨?_, ?_, ?_⟩
    · rw [out_C (by omega) q]; rfl
    · rw [out_C (by omega) q]
    · rw [bq_e (k ρ), if_pos (Or.inl rfl)]
theorem f_held (h : Rl B P Q S g L d X σ ρ) (x y : Int32) : Fc B ["java/lang/IndexOutOfBoundsException"] (fX11_held x y σ) (fX14_held x y ρ) := by
  have h1 := h.thr (v := 0)
  have e5 : (2 : Int64) = ((nI 3 - 1 : Int32).toInt64) := by decide
  unfold fX11_held fX14_held
  rw [lt_k, e5]
  rcases h1.hd x with ⟨a, p, ha, ha60, rfl, k1, _, k2, s, t, w, q1, q2, q3, q4, q5, q6, q7, q8, q9⟩ | ⟨k1, _, k2⟩
  · rw [bx_e k1, bq_e k2, if10]
    have g2 : gi (nI a) 60 := (n_gi (by omega)).mpr ha60
    have hTB : TB s < 2147483648 := by have := h.n12; unfold TB; omega
    rcases isIn_x (x := y) (N := 3) (by decide) with ⟨b, hb, rfl, k⟩ | ⟨q, k⟩
    · rw [bq_e (k _), if10]
      unfold fX14_heldTold
      have hb' : b = 0 ∨ b = 1 ∨ b = 2 := by omega
      rcases hb' with rfl | rfl | rfl
      · rw [if_pos (by decide), if_pos (by decide), if_pos g2, bq_s, n_cl (a := a) (by omega)]
        exact h1.yes rfl (congrArg (fun v => some (v, _)) (q3.trans q2.symm)) rfl
      · rw [if_neg (by decide), if_pos (by decide), if_neg (by decide), if_pos (by decide), if_pos g2, bq_s, n_cl (a := a) (by omega)]
        refine h1.yes rfl (congrArg (fun v => some (v, _)) ?_) rfl
        rcases q9 with ⟨u1, u2, _⟩ | ⟨c, _, u1, u2, _⟩
        · exact u2.trans u1.symm
        · exact u2.trans u1.symm
      · have g3 : gi (7 * nI a) 420 := by rw [i_7, n_mul]; exact (n_gi (by omega)).mpr (by omega)
        rw [if_neg (by decide), if_neg (by decide), if_pos (by decide), if_neg (by decide), if_neg (by decide), if_pos g3, bq_s]
        refine h1.yes rfl (congrArg (fun v => some (v, _)) ?_) rfl
        rw [i_7, n_mul, n_cl (by omega), show zJ (sI ρ 896 0 0 0 0) 1950 0 0 (7 * a) = lN t from q6, lN_i]
        exact q5.symm
    · rw [bq_e (k _), if00, fail_R, bq_s]
      rw [if_neg (show ¬ y = 0 from out_ne (j := 0) (by decide) q (by decide)), if_neg (show ¬ y = 1 from out_ne (j := 1) (by decide) q (by decide)), if_neg (show ¬ y = 2 from out_ne (j := 2) (by decide) q (by decide))]
      exact h1.no rfl rfl (List.mem_singleton.mpr rfl) rfl
  · rw [bx_x k1, bq_e k2, if00, fail_R, bq_s]
    exact h1.no rfl rfl (List.mem_singleton.mpr rfl) rfl
theorem heldv1 {x y : Int32} : fX14_heldValue_31 x y 1 ρ = some (0, sI ρ 896 0 0 0 1) := by
  unfold fX14_heldValue_31
  rw [lt_k, if_neg]
  show ¬ (1 : Int32) = 0
  decide
/-- how many numbers a held row has -/
theorem held_w (h : Rl B P Q S g L d X σ ρ) {a q : Nat} (ha : a < 60) (he : EH1 d X σ ρ a q) : ∃ w, w ≤ 6 ∧ zI σ 385 4 q 0 = nI w ∧ fX14_heldColumns (nI a) ρ = some (nI w, ρ) ∧ ∀ c, c < w → zJ σ 1410 4 q c = zJ ρ 1950 0 0 (7 * a + 1 + c) := by
  obtain ⟨s, t, w, q1, q2, q3, q4, q5, q6, q7, q8, q9⟩ := he
  obtain ⟨hp, ⟨hW, hPC, hPR, hz, hz3, hP⟩, _⟩ := h
  have hN := hW.1
  have b2 : s < 12 := by omega
  have hR := hPR.2.2.1 s q1
  unfold fX14_heldColumns
  simp (disch := omega) only [n_gi, n_cl, ha, q3, b2, hz3, ↓reduceIte]
  rcases q9 with ⟨u1, u2, u3, u4, u5, u6⟩ | ⟨c, u0, u1, u2, u3⟩
  · have hA : dA d s < s := hW.a q1 (by rw [u3]; decide)
    have hR2 := hPR.2.2.1 (dA d s) (by omega)
    have c1 : zI ρ 1797 g 0 s = nI (dA d s) := by rw [hR.2.2.2.2.1, if_neg (by rw [u3]; decide)]
    have c2 : dA d s < 12 := by omega
    have c3 := hR2.2.2.1
    have hw := hW.w6 (s := dA d s) (by omega)
    refine ⟨w, by omega, q7, ?_, q8⟩
    rw [u2, if_pos (show (-nI 1 : Int32) = -1 from rfl), c1]
    simp (disch := omega) only [n_gi, n_cl, c2, c3, ↓reduceIte]
    rw [u4]
  · have c3 := hR.2.2.1
    have hw := hW.w6 q1
    have hM := hW.2.1
    refine ⟨w, by omega, q7, ?_, q8⟩
    rw [u2, if_neg (n_mx (a := c) (by omega)), c3, u3]
theorem f_heldValue (h : Rl B P Q S g L d X σ ρ) (x y : Int32) : Fc B ["java/lang/IndexOutOfBoundsException"] (fX11_heldValue x y σ) (fX14_heldValue x y ρ) := by
  have h0 := h.thr (v := 0)
  unfold fX11_heldValue fX14_heldValue
  rcases h.hd x with ⟨a, p, ha, ha60, rfl, k1, _, k2, he⟩ | ⟨k1, _, k2⟩
  · obtain ⟨w, w6, e1, e2, e3⟩ := held_w h ha60 he
    rw [bx_e k1, bq_e k2, if10, bq_e e2]
    have e4 : zI σ 385 (4, p).1 (4, p).2 0 = nI w := e1
    rw [e4]
    rcases isIn_x (x := y) (N := w) (by omega) with ⟨c, hc, rfl, k⟩ | ⟨q, k⟩
    · rw [bq_e (k _), if10, in_C (by omega) hc]
      have u : fX6_numberAt 4 p (nI c) σ = some (zJ σ 1410 4 p c, σ) := by
        unfold fX6_numberAt
        have c1 : ¬ c < 0 := by omega
        have c2 : ¬ 6 ≤ c := by omega
        have c3 : c < 6 := by omega
        simp (disch := omega) only [i_0, i_6, n_lt, n_le, n_gi, n_cl, c1, c2, c3, ↓reduceIte]
      rw [bq_e (by exact u)]
      unfold fX14_heldValue_31
      have c5 : 7 * a + 1 + c < 420 := by omega
      have c6 : zI (sI ρ 896 0 0 0 0) 896 0 0 0 = 0 := rfl
      rw [lt_k, if_pos c6]
      rw [i_7, i_1, n_mul, n_add, n_add, if_pos ((n_gi (by omega)).mpr c5), n_cl (by omega), e3 c hc]
      exact h0.yes rfl rfl rfl
    · rw [bq_e (k _), if00, heldv1, out_C (by omega) q]
      exact h.no rfl rfl (List.mem_singleton.mpr rfl) rfl
  · rw [bx_x k1, bq_e k2, if00, heldv1]
    exact h.no rfl rfl (List.mem_singleton.mpr rfl) rfl
end CE
