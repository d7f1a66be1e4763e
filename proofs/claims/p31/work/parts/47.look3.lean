/-! THE WINDOWS' STEP; ALL STEPS -/
section LO3
variable {o z : Zs} {lim n e1 e2 e3 m1 m2 m3 : Nat} {X : Dk}
theorem look_3 (h : Dx o lim n X e1 e2 e3 m1 m2 m3 z) (he : e3 + 1 = (kS X).1) (hS : (kS X).1 ≤ 200) (hH : (kH X).1 < 60) (hW : (kW X).1 < 60) (hn : 0 < n) (hn2 : n ≤ 1000) (ht : ((kS X).2 e3).1 < 1000000) (hm3 : m3 < 1073741824) (hB : ∀ i, i < (kW X).1 → ((kW X).2 i).2.1 < 1073741824 ∧ ((kW X).2 i).2.2.1 < 1000000) : ∃ x, fX1_lookAtNewRows 3 2 3 0 z = some ((), x) ∧ Dx o lim n (spW n m3 X ((kS X).2 e3)) e1 e2 (kS X).1 m1 m2 m3 x ∧ zI x 70 0 0 0 = zI z 70 0 0 0 := by
  obtain ⟨m, hm⟩ := fu_2
  obtain ⟨x1, c1, c2, c3⟩ := row_in (i := e3) h hS (by omega)
  have h1 : Dx o lim n X e1 e2 e3 m1 m2 m3 x1 := h.ot c2 rfl rfl
  have hc : ∃ x, fX1_enterWindow 3 0 x1 = some (0, x) ∧ Dx o lim n (spW n m3 X ((kS X).2 e3)) e1 e2 e3 m1 m2 m3 x ∧ zI x 70 0 0 0 = zI z 70 0 0 0 := by
    unfold spW
    by_cases q : m3 ≤ ((kS X).2 e3).1 / n * n + n
    · obtain ⟨x, g1, g2, g3⟩ := ent_ok h1 hn hn2 c3.1 ht hm3 q hW hB
      rw [c3.2.2.1, c3.2.2.2] at g2
      rw [if_pos q]
      exact ⟨x, g1, g2, (g3.I rfl).trans (c2.I rfl)⟩
    · obtain ⟨x, g1, g2, g3⟩ := ent_late h1 hn hn2 c3.1 c3.2.1 ht hm3 q hH
      rw [c3.2.2.1, c3.2.2.2] at g2
      rw [if_neg q]
      exact ⟨x, g1, g2, (g3.I rfl).trans (c2.I rfl)⟩
  obtain ⟨x, g1, g2, g3⟩ := hc
  have kS1 : (kS (spW n m3 X ((kS X).2 e3))).1 = (kS X).1 := by unfold spW; split <;> rfl
  have g4 : zI x 512 2 0 0 = nI (kS X).1 := by rw [← kS1]; exact g2.2.2.1.1.1
  refine ⟨sI x 1486 2 3 0 (nI (kS X).1), ?_, g2.n3, (sI_c (by decide)).trans g3⟩
  unfold fX1_lookAtNewRows
  rw [bq_e (in_3 h.1), nn_e, if_pos (show gi 0 2 by decide), show zI z 1486 2 3 (Int32.toNatClampNeg 0) = nI e3 from h.2.2.2.2.2.2.1.2.2, hm, fX1_lookAtNewRows_22, h.2.2.1.1.1, if_neg (fun q => absurd ((n_le (by omega) (by omega)).mp q) (by omega)), bq_e c1, h1.1.i449_3_0, if_neg (by decide)]
  unfold fX1_comesOut
  rw [h1.1.i449_3_0, if_neg (by decide), if_neg (by decide), if_neg (by decide), if_neg (by decide), if_neg (by decide), if_neg (by decide), if_pos rfl, bq_e g1, if_pos (Or.inl rfl), bq_s, if_pos rfl, i_1, n_add, he, fX1_lookAtNewRows_22, g4, if_pos ((n_le (by omega) (by omega)).mpr (by omega)), if_pos (show gi 0 2 by decide), lt_k]
  rfl
theorem look0_1 (h : Dx o lim n X e1 e2 e3 m1 m2 m3 z) (he : e1 = (kS X).1) (hS : (kS X).1 ≤ 200) : ∃ x, fX1_lookAtNewRows 1 2 1 0 z = some ((), x) ∧ Dx o lim n X (kS X).1 e2 e3 m1 m2 m3 x ∧ zI x 70 0 0 0 = zI z 70 0 0 0 := by
  obtain ⟨m, hm⟩ := fu_2
  refine ⟨sI z 1486 2 1 0 (nI (kS X).1), ?_, h.n1, sI_c (by decide)⟩
  unfold fX1_lookAtNewRows
  rw [bq_e (in_1 h.1), nn_e, if_pos (show gi 0 2 by decide), show zI z 1486 2 1 (Int32.toNatClampNeg 0) = nI e1 from h.2.2.2.2.2.2.1.1, hm, fX1_lookAtNewRows_22, h.2.2.1.1.1, if_pos ((n_le (by omega) (by omega)).mpr (by omega)), if_pos (show gi 0 2 by decide), lt_k]
  rfl
theorem look0_2 (h : Dx o lim n X e1 e2 e3 m1 m2 m3 z) (he : e2 = (kS X).1) (hS : (kS X).1 ≤ 200) : ∃ x, fX1_lookAtNewRows 2 2 2 0 z = some ((), x) ∧ Dx o lim n X e1 (kS X).1 e3 m1 m2 m3 x ∧ zI x 70 0 0 0 = zI z 70 0 0 0 := by
  obtain ⟨m, hm⟩ := fu_2
  refine ⟨sI z 1486 2 2 0 (nI (kS X).1), ?_, h.n2, sI_c (by decide)⟩
  unfold fX1_lookAtNewRows
  rw [bq_e (in_2 h.1), nn_e, if_pos (show gi 0 2 by decide), show zI z 1486 2 2 (Int32.toNatClampNeg 0) = nI e2 from h.2.2.2.2.2.2.1.2.1, hm, fX1_lookAtNewRows_22, h.2.2.1.1.1, if_pos ((n_le (by omega) (by omega)).mpr (by omega)), if_pos (show gi 0 2 by decide), lt_k]
  rfl
theorem look0_3 (h : Dx o lim n X e1 e2 e3 m1 m2 m3 z) (he : e3 = (kS X).1) (hS : (kS X).1 ≤ 200) : ∃ x, fX1_lookAtNewRows 3 2 3 0 z = some ((), x) ∧ Dx o lim n X e1 e2 (kS X).1 m1 m2 m3 x ∧ zI x 70 0 0 0 = zI z 70 0 0 0 := by
  obtain ⟨m, hm⟩ := fu_2
  refine ⟨sI z 1486 2 3 0 (nI (kS X).1), ?_, h.n3, sI_c (by decide)⟩
  unfold fX1_lookAtNewRows
  rw [bq_e (in_3 h.1), nn_e, if_pos (show gi 0 2 by decide), show zI z 1486 2 3 (Int32.toNatClampNeg 0) = nI e3 from h.2.2.2.2.2.2.1.2.2, hm, fX1_lookAtNewRows_22, h.2.2.1.1.1, if_pos ((n_le (by omega) (by omega)).mpr (by omega)), if_pos (show gi 0 2 by decide), lt_k]
  rfl
theorem fu_6 : ∃ k, FU = k + 1 + 1 + 1 + 1 + 1 + 1 := ⟨19994, rfl⟩
/-- all steps, when each step's look is known -/
theorem run_all {x1 x2 x3 y : Zs} {Y1 Y2 Y3 : Dk} {S : Nat} (h : PF lim n z) (l1 : fX1_lookAtNewRows 1 2 1 0 z = some ((), x1)) (d1 : Dx o lim n Y1 S e2 e3 m1 m2 m3 x1) (l2 : fX1_lookAtNewRows 2 2 2 0 (sI x1 461 2 1 0 (wmI (kM Y1))) = some ((), x2)) (d2 : Dx o lim n Y2 S S e3 (kM Y1) m2 m3 x2) (l3 : fX1_lookAtNewRows 3 2 3 0 (sI x2 461 2 2 0 (wmI (kM Y2))) = some ((), x3)) (d3 : Dx o lim n Y3 S S S (kM Y1) (kM Y2) m3 x3) (cl : fX1_closeWindows 3 2 3 (sI x3 461 2 3 0 (wmI (kM Y3))) = some ((), y)) (dy : PF lim n y) : fX1_runSteps z = some ((), y) := by
  obtain ⟨m, hm⟩ := fu_6
  have p1 := d1.1
  have p2 := d2.1
  have p3 := d3.1
  have w1 : zI x1 461 2 0 0 = wmI (kM Y1) := d1.2.2.2.2.2.1.1
  have w2 : zI x2 461 2 0 0 = wmI (kM Y2) := d2.2.2.2.2.2.1.1
  have w3 : zI x3 461 2 0 0 = wmI (kM Y3) := d3.2.2.2.2.2.1.1
  have q1 : PF lim n (sI x1 461 2 1 0 (wmI (kM Y1))) := p1.sI rfl
  have q2 : PF lim n (sI x2 461 2 2 0 (wmI (kM Y2))) := p2.sI rfl
  have q3 : PF lim n (sI x3 461 2 3 0 (wmI (kM Y3))) := p3.sI rfl
  unfold fX1_runSteps
  rw [hm, fX1_runSteps_2, h.r64, h.i321_0_0, if_neg (by decide), if_pos (show gi 0 12 by decide), show Int32.toNatClampNeg 0 = 0 from rfl, h.i449_0_0, if_pos rfl, show (0 : Int32) + 1 = 1 by decide]
  rw [fX1_runSteps_2, h.r64, h.i321_0_0, if_neg (by decide), if_pos (show gi 1 12 by decide), show Int32.toNatClampNeg 1 = 1 from rfl, h.i449_1_0, if_neg (by decide), bq_e l1, bq_e (lm_1 p1), bq_e (lw_1 p1), w1, lt_k, q1.i449_1_0, if_neg (by decide), show (1 : Int32) + 1 = 2 by decide]
  rw [fX1_runSteps_2, q1.r64, q1.i321_0_0, if_neg (by decide), if_pos (show gi 2 12 by decide), show Int32.toNatClampNeg 2 = 2 from rfl, q1.i449_2_0, if_neg (by decide), bq_e l2, bq_e (lm_2 p2), bq_e (lw_2 p2), w2, lt_k, q2.i449_2_0, if_neg (by decide), show (2 : Int32) + 1 = 3 by decide]
  rw [fX1_runSteps_2, q2.r64, q2.i321_0_0, if_neg (by decide), if_pos (show gi 3 12 by decide), show Int32.toNatClampNeg 3 = 3 from rfl, q2.i449_3_0, if_neg (by decide), bq_e l3, bq_e (lm_3 p3), bq_e (lw_3 p3), w3, lt_k, q3.i449_3_0, if_pos rfl, bq_e cl, show (3 : Int32) + 1 = 4 by decide]
  rw [fX1_runSteps_2, dy.r64, dy.i321_0_0, if_pos (by decide)]
end LO3
