/-! THE CLASS'S PARSER BY ITSELF: ends of items, tokens, expressions, items -/
section KQ
variable {S b c q s i : Nat} {σ0 z : Zs} {α β : Type}
theorem k_if0 {o : Option (Unit × Zs)} (h : St0 S σ0 z) (g : zI z 192 0 0 0 = 0 → Wp1 o fun _ => St0 S σ0) : Wp1 (if zI z 192 0 0 0 = 0 then o else some ((), z)) fun _ => St0 S σ0 := by
  by_cases k : zI z 192 0 0 0 = 0
  · rw [if_pos k]; exact g k
  · rw [if_neg k]; exact h
theorem k_endCheck (h : St S 1 σ0 z) {x : Int32} : Wp1 (fX3_endCheck x z) fun _ => St0 S σ0 := by
  unfold fX3_endCheck
  refine k_if0 h.2 fun k => ?_
  obtain ⟨n, h1, h2⟩ := ((h.1 k).2.2 rfl).2
  have hI : St S 1 σ0 (sI z 1 S (zR z 196 0 0 0).2 0 x) := h.I (wS rfl) rfl
  have e4 : (zR (sI z 1 S (zR z 196 0 0 0).2 0 x) 194 0 0 0).1 = S := h.s4
  have e23 : zI (sI z 1 S (zR z 196 0 0 0).2 0 x) 323 S 0 0 = nI n := h2
  rw [h.s6 k, lt_k, lt_k, e4, e23, i_1, n_add]
  obtain ⟨h0, ⟨g1, g2, g3, g4, g5, g6, g7⟩, g8, g9⟩ := hI
  refine ⟨⟨g1, g2, ⟨n + 1, by omega, ?_⟩, g4, g5, g6, g7⟩, g8.I (wS rfl), g9⟩
  rw [zI_sI, if_pos ⟨rfl, rfl, rfl, rfl⟩]
theorem k_columnAt {p s : Nat} (x : Int32) : ∃ v, fX7_columnAt p s x z = some (v, z) := by
  unfold fX7_columnAt
  by_cases q1 : x < 0
  · rw [if_pos q1]; exact ⟨_, rfl⟩
  · rw [if_neg q1]
    by_cases q2 : (6 : Int32) ≤ x
    · rw [if_pos q2]; exact ⟨_, rfl⟩
    · rw [if_neg q2]
      rcases i32_c x with q | ⟨a, ha, rfl⟩
      · exact absurd q q1
      · rw [i_6, n_le (by omega) (by omega)] at q2
        rw [if_pos ((n_gi ha).mpr (by omega))]; exact ⟨_, rfl⟩
theorem k_addOther (h : St S 0 σ0 z) : Wp1 (fX3_addOtherColumns z) fun _ => St S 0 σ0 := by
  have l : ∀ (k y n : Nat) (z : Zs), y + k = 6 → k < n → St S 0 σ0 z → Wp1 (fX3_addOtherColumns_2 n (nI y) z) fun _ => St S 0 σ0 := by
    intro k
    induction k with
    | zero =>
      intro y n z h3 h4 h
      obtain ⟨n, rfl⟩ : ∃ j, n = j + 1 := ⟨n - 1, by omega⟩
      obtain ⟨W, h1, h2⟩ := h.2.1.2.2.2.2.2.1 (zR z 199 0 0 0).1 (zR z 199 0 0 0).2
      rw [fX3_addOtherColumns_2, h2, if_pos ((n_le (by omega) (by omega)).mpr (by omega))]
      exact h
    | succ k ih =>
      intro y n z h3 h4 h
      obtain ⟨n, rfl⟩ : ∃ j, n = j + 1 := ⟨n - 1, by omega⟩
      rw [fX3_addOtherColumns_2, i_1, n_add]
      split
      · exact h
      · split
        · exact ih (y + 1) n z (by omega) (by omega) h
        · obtain ⟨v, e⟩ := k_columnAt (z := z) (p := (zR z 199 0 0 0).1) (s := (zR z 199 0 0 0).2) (nI y)
          rw [bq_e e]
          refine kb (k_addColumn h) fun _ z h => ?_
          split
          · exact kb (k_report h (by decide)) fun _ z h => ih (y + 1) n z (by omega) (by omega) h
          · exact ih (y + 1) n z (by omega) (by omega) h
  exact l 6 0 FU z (by omega) (by unfold FU; omega) h
theorem k_hasCols (h : KI0 S z) (p s p1 s1 : Nat) : ∃ v, fX7_hasColumnsOf p s p1 s1 z = some (v, z) := by
  obtain ⟨W, h1, h2⟩ := h.2.2.2.2.2.1 p s
  have l : ∀ (k y n : Nat), y + k = W → k < n → ∃ v, fX7_hasColumnsOf_15 p s p1 s1 n (nI y) z = some (v, z) := by
    intro k
    induction k with
    | zero =>
      intro y n h3 h4
      obtain ⟨n, rfl⟩ : ∃ j, n = j + 1 := ⟨n - 1, by omega⟩
      rw [fX7_hasColumnsOf_15, h2, if_pos ((n_le (by omega) (by omega)).mpr (by omega))]
      exact ⟨_, rfl⟩
    | succ k ih =>
      intro y n h3 h4
      obtain ⟨n, rfl⟩ : ∃ j, n = j + 1 := ⟨n - 1, by omega⟩
      have g : gi (nI y) 6 := (n_gi (by omega)).mpr (by omega)
      rw [fX7_hasColumnsOf_15, h2, if_neg (fun z => by have := (n_le (by omega) (by omega)).mp z; omega), i_6, if_neg (fun z => by have := (n_le (by omega) (by omega)).mp z; omega), if_pos g, if_pos g]
      split
      · rw [i_1, n_add]; exact ih (y + 1) n (by omega) (by omega)
      · exact ⟨_, rfl⟩
  unfold fX7_hasColumnsOf
  split
  · exact l W 0 FU (by omega) (by unfold FU; omega)
  · exact ⟨_, rfl⟩
theorem k_es88 (h : St S 0 σ0 z) (hw : zI z 192 0 0 0 = 0 → ∃ w, w ≤ 6 ∧ zI z 201 0 0 0 = nI w) : Wp1 (fX3_endStream_88 z) fun _ => St0 S σ0 := by
  unfold fX3_endStream_88
  refine k_if0 h.2 fun k => ?_
  obtain ⟨W, w1, w2⟩ := hw k
  obtain ⟨N, n1, n2⟩ := ((h.1 k).2.1 rfl).2
  rw [h.s5 k, w2]
  have l : ∀ (k y n : Nat) (z : Zs), y + k = W → k < n → St0 S σ0 z → zI z 321 S 0 0 = nI N → Wp1 (fX7_setColumns_2 S ((zR z 195 0 0 0).2) (nI W) n (nI y) z) fun _ z' => St0 S σ0 z' ∧ zI z' 321 S 0 0 = nI N := by
    intro k
    induction k with
    | zero =>
      intro y n z h3 h4 h hN
      obtain ⟨n, rfl⟩ : ∃ j, n = j + 1 := ⟨n - 1, by omega⟩
      rw [fX7_setColumns_2, if_pos ((n_le (by omega) (by omega)).mpr (by omega)), lt_k]
      refine ⟨?_, hN⟩
      obtain ⟨⟨g1, g2, g3, g4, g5, g6, g7⟩, g8, g9⟩ := h
      refine ⟨⟨g1, g2, g3, g4, g5, fun p s => ?_, g7⟩, g8.I (wS rfl), g9⟩
      rw [zI_sI]
      split
      · exact ⟨W, w1, rfl⟩
      · exact g6 p s
    | succ k ih =>
      intro y n z h3 h4 h hN
      obtain ⟨n, rfl⟩ : ∃ j, n = j + 1 := ⟨n - 1, by omega⟩
      rw [fX7_setColumns_2, if_neg (fun z => by have := (n_le (by omega) (by omega)).mp z; omega), i_1500, if_neg (fun z => by have := (n_le (by omega) (by omega)).mp z; omega), i_6, if_neg (fun z => by have := (n_le (by omega) (by omega)).mp z; omega), if_pos ((n_gi (by omega)).mpr (by omega)), if_pos ((n_gi (by omega)).mpr (by omega)), lt_k, i_1, n_add]
      exact ih (y + 1) n _ (by omega) (by omega) (h.J (wS rfl)) hN
  refine wp_q (wp_m (l W 0 FU z (by omega) (by unfold FU; omega) h.2 n2) fun _ z' q => ?_)
  obtain ⟨q1, q2⟩ := q
  have e4 : (zR z' 194 0 0 0).1 = S := by rw [q1.1.1]
  rw [lt_k, e4, q2, i_1, n_add]
  obtain ⟨⟨g1, g2, g3, g4, g5, g6, g7⟩, g8, g9⟩ := q1
  refine ⟨⟨g1, ⟨N + 1, by omega, ?_⟩, g3, g4, g5, g6, g7⟩, g8.I (wS rfl), g9⟩
  rw [zI_sI, if_pos ⟨rfl, rfl, rfl, rfl⟩]
theorem k_es63 (h : St S 0 σ0 z) : Wp1 (fX3_endStream_63 z) fun _ => St0 S σ0 := by
  unfold fX3_endStream_63
  obtain ⟨W, h1, h2⟩ := h.2.1.2.2.2.2.1
  by_cases k : zI z 192 0 0 0 = 0
  · rw [if_pos k, h2, i_6]
    by_cases q : W ≤ 6
    · rw [if_pos ((n_le (by omega) (by omega)).mpr q)]
      exact k_es88 h fun _ => ⟨W, q, h2⟩
    · rw [if_neg (fun z => q ((n_le (by omega) (by omega)).mp z))]
      unfold fX3_report
      rw [if_pos k, lt_k, lt_k, bq_s]
      exact k_es88 (h.rep k (by decide)) fun z => absurd (show (4 : Int32) = 0 from z) (by decide)
  · rw [if_neg k]
    exact k_es88 h fun z => absurd z k
theorem k_endStream (h : St S 0 σ0 z) : Wp1 (fX3_endStream z) fun _ => St0 S σ0 := by
  have e : ∀ z, St S 0 σ0 z → Wp1 (if zI z 192 0 0 0 = 0 then (if (zI z 449 ((zR z 195 0 0 0).1) ((zR z 195 0 0 0).2) 0) = 5 then (bq (fX3_addOtherColumns z) fun _ y => fX3_endStream_63 y) else (fX3_endStream_63 z)) else (fX3_endStream_63 z)) fun _ => St0 S σ0 := by
    intro z h
    split
    · split
      · exact kb (k_addOther h) fun _ _ h => k_es63 h
      · exact k_es63 h
    · exact k_es63 h
  unfold fX3_endStream
  by_cases k : zI z 192 0 0 0 = 0
  · rw [if_pos k]
    by_cases k4 : zI z 449 ((zR z 195 0 0 0).1) ((zR z 195 0 0 0).2) 0 = 4
    · rw [if_pos k4]
      obtain ⟨v, e1⟩ := k_hasCols h.2.1 (zR z 198 0 0 0).1 (zR z 198 0 0 0).2 (zR z 199 0 0 0).1 (zR z 199 0 0 0).2
      rw [bq_e e1]
      by_cases kv : v = 0
      · rw [if_pos kv]
        exact kb (k_report h (by decide)) fun _ z h => e z h
      · rw [if_neg kv]
        exact e z h
    · rw [if_neg k4]
      exact e z h
  · rw [if_neg k]
    exact e z h
theorem St0.w97 (h : St0 S σ0 z) {v : Int32} : St0 S σ0 (sI z 197 0 0 0 v) := ⟨h.1, h.2.1.I (w0 rfl), h.2.2⟩
theorem k_startStream (h : St0 S σ0 z) {y : Int32} : Wp1 (fX3_startStream y z) fun _ => St S 0 σ0 := by
  unfold fX3_startStream
  by_cases k : zI z 192 0 0 0 = 0
  · obtain ⟨n, n1, n2⟩ := h.1.2.1
    have h1 : St0 S σ0 (sI z 197 0 0 0 0) := h.w97
    have e4 : (zR (sI z 197 0 0 0 0) 194 0 0 0).1 = S := by rw [h1.1.1]
    have e3 : zI (sI z 197 0 0 0 0) 321 S 0 0 = nI n := n2
    have i12 : (12 : Int32) = nI 12 := rfl
    rw [if_pos k, lt_k, e4, e3, i12]
    by_cases q : n < 12
    · have e5 : (zR (sR (sI z 197 0 0 0 0) 195 0 0 0 (S, n)) 195 0 0 0) = (S, n) := rfl
      have g2 : gi 0 2 := by decide
      have g3 : gi 1 2 := by decide
      rw [if_pos ((n_lt (by omega) (by omega)).mpr q), if_pos ((n_gi (by omega)).mpr q), n_cl (by omega), lt_k, e5]
      have hS : St S 0 σ0 (sR (sI z 197 0 0 0 0) 195 0 0 0 (S, n)) := ⟨fun _ => ⟨rfl, fun _ => ⟨rfl, n, q, n2⟩, fun z => by cases z⟩, ⟨h1.1, h1.2.1.R (w0 rfl), h1.2.2⟩⟩
      unfold fX7_clear
      rw [lt_k, if_pos g2, lt_k, if_pos g3, lt_k, lt_k, lt_k, lt_k, lt_k, bq_s, lt_k]
      exact (((((((hS.I (wS rfl) rfl).I (wS rfl) rfl).I (wS rfl) rfl).I (wS rfl) rfl).I (wS rfl) rfl).I (wS rfl) rfl).I (wS rfl) rfl).w201 (n := 0) (by omega)
    · rw [if_neg (fun z => q ((n_lt (by omega) (by omega)).mp z))]
      unfold fX3_report
      have k2 : zI (sI z 197 0 0 0 0) 192 0 0 0 = 0 := k
      rw [if_pos k2, lt_k, lt_k, bq_s]
      obtain ⟨⟨u1, u2, u3, u4, u5, u6, u7, u8, u9, _⟩, g2, g3, g4⟩ := h1
      exact ⟨fun z => absurd (show (4 : Int32) = 0 from z) (by decide), ⟨u1, u2, u3, u4, u5, u6, u7, u8, u9, fun z => absurd (show (4 : Int32) = 0 from z) (by decide)⟩, (g2.I (w0 rfl)).I (w0 rfl), fun q => absurd ((g3 q).1.symm.trans k2) q, g4⟩
  · rw [if_neg k]
    exact ⟨fun z => absurd z k, h⟩
theorem k_startCheck (h : St0 S σ0 z) {y : Int32} : Wp1 (fX3_startCheck y z) fun _ => St S 1 σ0 := by
  unfold fX3_startCheck
  by_cases k : zI z 192 0 0 0 = 0
  · obtain ⟨n, n1, n2⟩ := h.1.2.2.1
    have h1 : St0 S σ0 (sI z 197 0 0 0 1) := h.w97
    have e4 : (zR (sI z 197 0 0 0 1) 194 0 0 0).1 = S := by rw [h1.1.1]
    have e3 : zI (sI z 197 0 0 0 1) 323 S 0 0 = nI n := n2
    rw [if_pos k, lt_k, e4, e3, i_8]
    by_cases q : n < 8
    · rw [if_pos ((n_lt (by omega) (by omega)).mpr q), if_pos ((n_gi (by omega)).mpr q), n_cl (by omega), lt_k]
      exact ⟨fun _ => ⟨rfl, fun z => (by cases z), fun _ => ⟨rfl, n, q, n2⟩⟩, ⟨h1.1, h1.2.1.R (w0 rfl), h1.2.2⟩⟩
    · rw [if_neg (fun z => q ((n_lt (by omega) (by omega)).mp z))]
      unfold fX3_report
      have k2 : zI (sI z 197 0 0 0 1) 192 0 0 0 = 0 := k
      rw [if_pos k2, lt_k, lt_k, bq_s]
      obtain ⟨⟨u1, u2, u3, u4, u5, u6, u7, u8, u9, _⟩, g2, g3, g4⟩ := h1
      exact ⟨fun z => absurd (show (4 : Int32) = 0 from z) (by decide), ⟨u1, u2, u3, u4, u5, u6, u7, u8, u9, fun z => absurd (show (4 : Int32) = 0 from z) (by decide)⟩, (g2.I (w0 rfl)).I (w0 rfl), fun q => absurd ((g3 q).1.symm.trans k2) q, g4⟩
  · rw [if_neg k]
    exact ⟨fun z => absurd z k, h⟩
-- tokens
theorem m1_lt {a : Nat} (h : a < 2147483648) : ¬ (nI a : Int32) < 0 := by rw [i_0, n_lt h (by omega)]; omega
theorem k_fail0 (h : St0 S σ0 z) : Wp1 (fX4_fail z) fun _ => St0 S σ0 := by
  unfold fX4_fail
  obtain ⟨⟨g1, g2, g3, g4, g5, g6, g7, ⟨a, a1, a2⟩, g9⟩, g10, g11, g12⟩ := h
  by_cases q : (0 : Int32) ≤ zI z 258 0 0 0
  · rw [if_pos q, lt_k]
    rcases g7 with g7 | ⟨g7, _⟩
    · rw [g7] at q; exact absurd q (by decide)
    · exact ⟨⟨g1, g2, g3, g4, g5, g6, Or.inr ⟨g7, rfl⟩, ⟨a, a1, a2⟩, g9⟩, g10.I (w0 rfl), g11, g12⟩
  · rw [if_neg q, lt_k, lt_k]
    have g7' : zI z 258 0 0 0 = -nI 1 := by
      rcases g7 with g7 | ⟨⟨e, e1, e2⟩, _⟩
      · exact g7
      · rw [e2] at q
        exact absurd (show (0 : Int32) ≤ nI e by rw [i_0, n_le (by omega) e1]; omega) q
    refine ⟨⟨g1, g2, g3, g4, g5, g6, Or.inr ⟨⟨a, a1, ?_⟩, rfl⟩, ⟨a, a1, a2⟩, g9⟩, (g10.I (w0 rfl)).I (w0 rfl), g11, fun z => ?_⟩
    · exact a2
    · exact absurd ((g12 z).symm.trans g7') z
theorem fail_192 : Wp1 (fX4_fail z) fun _ z' => zI z' 192 0 0 0 = zI z 192 0 0 0 ∧ zI z' 197 0 0 0 = zI z 197 0 0 0 ∧ zR z' = zR z ∧ (∀ p s, zI z' 321 p s 0 = zI z 321 p s 0) ∧ ∀ p s, zI z' 323 p s 0 = zI z 323 p s 0 := by
  unfold fX4_fail
  split
  · rw [lt_k]; exact ⟨rfl, rfl, rfl, fun _ _ => rfl, fun _ _ => rfl⟩
  · rw [lt_k, lt_k]; exact ⟨rfl, rfl, rfl, fun _ _ => rfl, fun _ _ => rfl⟩
theorem KIb.to {z' : Zs} (h : KIb S b z) (e : zI z' 192 0 0 0 = zI z 192 0 0 0 ∧ zI z' 197 0 0 0 = zI z 197 0 0 0 ∧ zR z' = zR z ∧ (∀ p s, zI z' 321 p s 0 = zI z 321 p s 0) ∧ ∀ p s, zI z' 323 p s 0 = zI z 323 p s 0) : KIb S b z' := by
  obtain ⟨e1, e2, e3, e4, e5⟩ := e
  intro q
  rw [e1] at q
  rw [e2, e3, e4, e5]
  exact h q
theorem k_fail (h : St S b σ0 z) : Wp1 (fX4_fail z) fun _ => St S b σ0 := by
  have h1 := k_fail0 h.2
  obtain ⟨v, z', e, q⟩ := wp_ex (fail_192 (z := z))
  rw [e] at h1 ⊢
  exact ⟨h.1.to q, h1⟩
theorem k_adv0 (h : St0 S σ0 z) : Wp1 (fX4_advance z) fun _ z' => St0 S σ0 z' ∧ (zI z' 192 0 0 0 = zI z 192 0 0 0 ∧ zI z' 197 0 0 0 = zI z 197 0 0 0 ∧ zR z' = zR z ∧ (∀ p s, zI z' 321 p s 0 = zI z 321 p s 0) ∧ ∀ p s, zI z' 323 p s 0 = zI z 323 p s 0) := by
  unfold fX4_advance
  by_cases q : (0 : Int32) ≤ zI z 258 0 0 0
  · rw [if_pos q]
    exact ⟨h, rfl, rfl, rfl, fun _ _ => rfl, fun _ _ => rfl⟩
  · rw [if_neg q]
    by_cases q1 : zI z 259 0 0 0 + 1 < 0
    · rw [if_pos q1]
      exact ⟨h, rfl, rfl, rfl, fun _ _ => rfl, fun _ _ => rfl⟩
    · rw [if_neg q1]
      by_cases q2 : zI z 259 0 0 0 + 1 < zI z 580 0 0 0
      · rw [if_pos q2, lt_k]
        obtain ⟨⟨C, c1, c2, c3⟩, _⟩ := h.1.2.2.2.2.2.2.2.2
        obtain ⟨a, ha, e⟩ : ∃ a, a < C ∧ zI z 259 0 0 0 + 1 = nI a := by
          rcases i32_c (zI z 259 0 0 0 + 1) with q | ⟨a, ha, e⟩
          · exact absurd q q1
          · rw [c2, e, n_lt ha (by omega)] at q2
            exact ⟨a, q2, e⟩
        obtain ⟨p, p1, p2⟩ := c3 a ha
        have g : gi (nI a) 1501 := (n_gi (by omega)).mpr (by omega)
        rw [e]
        have h1 : St0 S σ0 (sI z 259 0 0 0 (nI a)) := h.I (w0 rfl) rfl
        have e1 : zI (sI z 259 0 0 0 (nI a)) 259 0 0 0 = nI a := rfl
        have p2 : zI (sI z 259 0 0 0 (nI a)) 1601 0 0 a = nI p := p2
        have h258 : zI (sI z 259 0 0 0 (nI a)) 258 0 0 0 = -nI 1 := by
          rcases h.1.2.2.2.2.2.2.1 with g | ⟨⟨e, e1, e2⟩, _⟩
          · exact g
          · rw [e2] at q
            exact absurd (show (0 : Int32) ≤ nI e by rw [i_0, n_le (by omega) e1]; omega) q
        obtain ⟨z1, hz1⟩ : ∃ y, y = sI z 259 0 0 0 (nI a) := ⟨_, rfl⟩
        rw [← hz1] at h1 e1 p2 h258 ⊢
        rw [e1, if_pos g, lt_k, n_cl (by omega)]
        have h2 : ∀ k, St0 S σ0 (sI z1 260 0 0 0 k) := fun k => by
          obtain ⟨⟨g1, g2, g3, g4, g5, g6, g7, g8, g9⟩, g10, g11, g12⟩ := h1
          exact ⟨⟨g1, g2, g3, g4, g5, g6, Or.inl h258, g8, g9⟩, g10.I (w0 rfl), g11, g12⟩
        have h2 := h2 (zI z1 1600 0 0 a)
        have e2 : zI (sI z1 260 0 0 0 (zI z1 1600 0 0 a)) 259 0 0 0 = nI a := e1
        have p3 : zI (sI z1 260 0 0 0 (zI z1 1600 0 0 a)) 1601 0 0 a = nI p := p2
        obtain ⟨z2, hz2⟩ : ∃ y, y = sI z1 260 0 0 0 (zI z1 1600 0 0 a) := ⟨_, rfl⟩
        rw [← hz2] at h2 e2 p3 ⊢
        rw [e2, if_pos g, lt_k, n_cl (by omega), p3]
        have h3 : St0 S σ0 (sI z2 261 0 0 0 (nI p)) := by
          obtain ⟨⟨g1, g2, g3, g4, g5, g6, g7, g8, g9⟩, g10, g11, g12⟩ := h2
          exact ⟨⟨g1, g2, g3, g4, g5, g6, g7, ⟨p, p1, rfl⟩, g9⟩, g10.I (w0 rfl), g11, g12⟩
        have e3 : zI (sI z2 261 0 0 0 (nI p)) 259 0 0 0 = nI a := e2
        obtain ⟨z3, hz3⟩ : ∃ y, y = sI z2 261 0 0 0 (nI p) := ⟨_, rfl⟩
        rw [← hz3] at h3 e3 ⊢
        rw [e3, if_pos g, lt_k]
        refine ⟨h3.J (w0 rfl), ?_⟩
        rw [hz3, hz2, hz1]
        exact ⟨rfl, rfl, rfl, fun _ _ => rfl, fun _ _ => rfl⟩
      · rw [if_neg q2]
        exact ⟨h, rfl, rfl, rfl, fun _ _ => rfl, fun _ _ => rfl⟩
theorem k_adv (h : St S b σ0 z) : Wp1 (fX4_advance z) fun _ => St S b σ0 := wp_m (k_adv0 h.2) fun _ _ q => ⟨h.1.to q.2, q.1⟩
theorem k_take (h : St S b σ0 z) {x : Int32} : Wp1 (fX4_take x z) fun _ => St S b σ0 := by
  unfold fX4_take
  split
  · exact kb (k_adv h) fun _ _ h => h
  · exact kb (k_fail h) fun _ _ h => h
theorem k_takeIn (h : St S b σ0 z) {x y : Int32} : Wp1 (fX4_takeInExpression x y z) fun v z' => St S b σ0 z' ∧ (¬ v = 0 → y ≤ 8) := by
  unfold fX4_takeInExpression
  split
  · split
    · exact kb (k_fail h) fun _ _ h => ⟨h, fun q => absurd rfl q⟩
    · split
      · rw [lt_k]
        exact kb (k_adv (h.I (w0 rfl) rfl)) fun _ _ h => ⟨h, fun _ => ‹y ≤ 8›⟩
      · exact kb (k_fail h) fun _ _ h => ⟨h, fun q => absurd rfl q⟩
  · exact kb (k_fail h) fun _ _ h => ⟨h, fun q => absurd rfl q⟩
theorem k_takeIn' (h : St S b σ0 z) {x y : Int32} : Wp1 (fX4_takeInExpression x y z) fun _ => St S b σ0 := wp_m (k_takeIn h) fun _ _ q => q.1
theorem k_takeComma (h : St S b σ0 z) {x : Int32} : Wp1 (fX4_takeComma x z) fun _ => St S b σ0 := by
  unfold fX4_takeComma
  split
  · exact h
  · exact kb (k_take h) fun _ _ h => h
theorem k_takeName (h : St S b σ0 z) (hb : b ≤ 1) {x : Int32} (hx : x = 2 ∨ b = 0) : Wp1 (fX4_takeName x z) fun _ => St S b σ0 := by
  unfold fX4_takeName
  split
  · exact kb (k_lookAtName h hb hx) fun _ _ h => kb (k_take h) fun _ _ h => h
  · exact kb (k_take h) fun _ _ h => h
theorem k_takeRange (h : St S 0 σ0 z) {x : Int32} : Wp1 (fX4_takeRange x z) fun _ => St S 0 σ0 := by
  unfold fX4_takeRange
  refine kb (k_take h) fun _ _ h => ?_
  split
  · exact kb (k_lookAtRange h) fun _ _ h => kb (k_take h) fun _ _ h => h
  · exact kb (k_take h) fun _ _ h => h
theorem k_takeNames (h : St S 0 σ0 z) {x : Int32} : Wp1 (fX4_takeNames x z) fun _ => St S 0 σ0 := by
  have l : ∀ (k y n : Nat) (z : Zs), y + k = 1500 → k < n → St S 0 σ0 z → Wp1 (fX4_takeNames_8 x n (nI y) z) fun _ => St S 0 σ0 := by
    intro k
    induction k with
    | zero =>
      intro y n z h1 h2 h
      obtain ⟨n, rfl⟩ : ∃ j, n = j + 1 := ⟨n - 1, by omega⟩
      rw [fX4_takeNames_8, i_1500, if_pos ((n_le (by omega) (by omega)).mpr (by omega))]
      exact kb (k_take h) fun _ _ h => h
    | succ k ih =>
      intro y n z h1 h2 h
      obtain ⟨n, rfl⟩ : ∃ j, n = j + 1 := ⟨n - 1, by omega⟩
      rw [fX4_takeNames_8, i_1500, if_neg (fun z => by have := (n_le (by omega) (by omega)).mp z; omega), i_1, n_add]
      split
      · exact kb (k_takeComma h) fun _ _ h => kb (k_takeName h (by omega) (Or.inr rfl)) fun _ z h => ih (y + 1) n z (by omega) (by omega) h
      · split
        · exact kb (k_takeComma h) fun _ _ h => kb (k_takeName h (by omega) (Or.inr rfl)) fun _ z h => ih (y + 1) n z (by omega) (by omega) h
        · exact kb (k_take h) fun _ _ h => h
  unfold fX4_takeNames
  exact kb (k_take h) fun _ z h => l 1500 0 FU z (by omega) (by unfold FU; omega) h
theorem k_secondInput (h : St S 0 σ0 z) : Wp1 (fX4_secondInput z) fun _ => St S 0 σ0 := by
  unfold fX4_secondInput
  exact kb (k_take h) fun _ _ h => kb (k_takeName h (by omega) (Or.inr rfl)) fun _ _ h => h
/-- a word, then the key: spelled out in the class -/
noncomputable def oKey (x : Int32) (z : Zs) : Option (Unit × Zs) := bq (fX4_take x z) fun _ z => bq (fX4_takeName 4 z) fun _ z => some ((), z)
theorem oKey_q {x : Int32} {k : Unit → Zs → Option (β × Zs)} : (bq (oKey x z) k) = bq (fX4_take x z) fun _ z => bq (fX4_takeName 4 z) fun _ z => k () z := by
  unfold oKey
  rcases fX4_take x z with _ | ⟨_, z⟩
  · rfl
  · show bq (bq (fX4_takeName 4 z) fun _ z => some ((), z)) k = bq (fX4_takeName 4 z) fun _ z => k () z
    rcases fX4_takeName 4 z with _ | ⟨_, z⟩
    · rfl
    · rfl
theorem k_key (h : St S 0 σ0 z) {x : Int32} : Wp1 (oKey x z) fun _ => St S 0 σ0 := by
  unfold oKey
  exact kb (k_take h) fun _ _ h => kb (k_takeName h (by omega) (Or.inr rfl)) fun _ _ h => h
theorem ite_ex {c : Prop} [Decidable c] {a b : Option (α × Zs)} (h : ∃ v, a = some (v, z)) (k : ∃ v, b = some (v, z)) : ∃ v, (if c then a else b) = some (v, z) := by
  by_cases q : c
  · rw [if_pos q]; exact h
  · rw [if_neg q]; exact k
theorem k_kow (x : Int32) : ∃ v, fX4_kindOfWork x z = some (v, z) := by
  unfold fX4_kindOfWork
  repeat (first | exact ⟨_, rfl⟩ | refine ite_ex ?_ ?_)
theorem k_takeTotal (h : St S 0 σ0 z) : Wp1 (fX4_takeTotal z) fun _ => St S 0 σ0 := by
  unfold fX4_takeTotal
  repeat (first | exact kb (k_setTotal h) fun _ _ h => kb (k_take h) fun _ _ h => h | exact kb (k_fail h) fun _ _ h => h | split)
-- expressions
theorem k_function {x y : Int32} {kE : Int32 → Zs → Option (Unit × Zs)} (hE : y + 1 ≤ 8 → ∀ z, St S b σ0 z → Wp1 (kE (y + 1) z) fun _ => St S b σ0) (h : St S b σ0 z) : Wp1 (fX4_function x y kE z) fun _ => St S b σ0 := by
  have l : y + 1 ≤ 8 → ∀ (k u n : Nat) (z : Zs) (y3 y4 : Int32), u + k = 60 → k < n → St S b σ0 z → Wp1 (fX4_function_38 x y kE n y3 y4 (nI u) z) fun _ => St S b σ0 := by
    intro hy k
    induction k with
    | zero =>
      intro u n z y3 y4 h1 h2 h
      obtain ⟨n, rfl⟩ : ∃ j, n = j + 1 := ⟨n - 1, by omega⟩
      rw [fX4_function_38, i_60, if_pos ((n_le (by omega) (by omega)).mpr (by omega))]
      exact kb (k_takeIn' h) fun _ _ h => kb (k_endFunction h) fun _ _ h => h
    | succ k ih =>
      intro u n z y3 y4 h1 h2 h
      obtain ⟨n, rfl⟩ : ∃ j, n = j + 1 := ⟨n - 1, by omega⟩
      rw [fX4_function_38, i_60, if_neg (fun z => by have := (n_le (by omega) (by omega)).mp z; omega)]
      split
      · refine kb (k_takeIn' h) fun _ _ h => kb (hE hy _ h) fun _ z h => ?_
        rw [show (nI u : Int32) + 1 = nI (u + 1) by rw [i_1, n_add]]
        exact ih (u + 1) n z _ _ (by omega) (by omega) h
      · exact kb (k_takeIn' h) fun _ _ h => kb (k_endFunction h) fun _ _ h => h
  unfold fX4_function
  refine kb (k_takeIn' h) fun _ _ h => wp_q (wp_m (k_takeIn h) fun v z' q => ?_)
  split
  · exact q.1
  · refine kb (hE (q.2 ‹_›) _ q.1) fun _ z h => ?_
    exact l (q.2 ‹_›) 60 0 FU z _ _ (by omega) (by unfold FU; omega) h
theorem k_factor {y : Int32} {kE kF : Int32 → Zs → Option (Unit × Zs)} (hE : y + 1 ≤ 8 → ∀ z, St S b σ0 z → Wp1 (kE (y + 1) z) fun _ => St S b σ0) (hF : y + 1 ≤ 8 → ∀ z, St S b σ0 z → Wp1 (kF (y + 1) z) fun _ => St S b σ0) (h : St S b σ0 z) : Wp1 (fX4_factor y kE kF z) fun _ => St S b σ0 := by
  have e1 : ∀ x z', St S b σ0 z' → Wp1 (bq (fX4_takeInExpression x y z') fun _ σ => some ((), σ)) fun _ => St S b σ0 := fun x z' h => kb (k_takeIn' h) fun _ _ h => h
  have e2 : ∀ x (g : Prop) [Decidable g], Wp1 (bq (fX4_takeInExpression x (y + 1) z) fun v29 σ30 => if v29 = 0 then (some ((), σ30)) else (bq (kF (y + 1) σ30) fun v33 σ34 => if g then (bq (fX3_emit 160 0 σ34) fun v41 σ42 => some ((), σ42)) else (bq (fX3_emit 158 0 σ34) fun v37 σ38 => some ((), σ38)))) fun _ => St S b σ0 := by
    intro x g _
    refine wp_q (wp_m (k_takeIn h) fun v z' q => ?_)
    split
    · exact q.1
    · refine kb (hF (q.2 ‹_›) _ q.1) fun _ z h => ?_
      split
      · exact kb (k_emit h) fun _ _ h => h
      · exact kb (k_emit h) fun _ _ h => h
  have e3 : ∀ x u, Wp1 (bq (fX4_takeInExpression x (y + 1) z) fun v29 σ30 => if v29 = 0 then (some ((), σ30)) else (bq (kF (y + 1) σ30) fun v33 σ34 => (bq (fX3_emit u 0 σ34) fun v41 σ42 => some ((), σ42)))) fun _ => St S b σ0 := by
    intro x u
    refine wp_q (wp_m (k_takeIn h) fun v z' q => ?_)
    split
    · exact q.1
    · refine kb (hF (q.2 ‹_›) _ q.1) fun _ z h => kb (k_emit h) fun _ _ h => h
  unfold fX4_factor
  split
  · exact kb (k_useColumn h) fun _ _ h => e1 _ _ h
  · split
    · exact kb (k_emit h) fun _ _ h => e1 _ _ h
    · split
      · refine wp_q (wp_m (k_takeIn h) fun v z' q => ?_)
        split
        · exact q.1
        · exact kb (hE (q.2 ‹_›) _ q.1) fun _ z h => e1 _ _ h
      · split
        · first | exact e3 _ _ | exact e2 _ (zI z 260 0 0 0 = 45)
        · split
          · exact kb (k_function hE h) fun _ _ h => h
          · split
            · exact kb (k_function hE h) fun _ _ h => h
            · split
              · exact kb (k_emit h) fun _ _ h => e1 _ _ h
              · split
                · first | exact e3 _ _ | exact e2 _ (zI z 260 0 0 0 = 45)
                · split
                  · exact kb (k_function hE h) fun _ _ h => h
                  · exact kb (k_fail h) fun _ _ h => h
theorem k_product {x : Int32} {kF : Int32 → Zs → Option (Unit × Zs)} (hF : ∀ z, St S b σ0 z → Wp1 (kF x z) fun _ => St S b σ0) (h : St S b σ0 z) : Wp1 (fX4_product x kF z) fun _ => St S b σ0 := by
  have e : ∀ (z : Zs) (k7 : Int32 → Zs → Option (Unit × Zs)) (y : Int32), (∀ z, St S b σ0 z → Wp1 (k7 (y + 1) z) fun _ => St S b σ0) → St S b σ0 z → Wp1 (fX4_product_40 x kF k7 y z) fun _ => St S b σ0 := by
    intro z k7 y hk h
    unfold fX4_product_40
    exact kb (k_takeIn' h) fun _ _ h => kb (hF _ h) fun _ _ h => kb (k_emit h) fun _ _ h => hk _ h
  have l : ∀ (k y n : Nat) (z : Zs), y + k = 60 → k < n → St S b σ0 z → Wp1 (fX4_product_7 x kF n (nI y) z) fun _ => St S b σ0 := by
    intro k
    induction k with
    | zero =>
      intro y n z h1 h2 h
      obtain ⟨n, rfl⟩ : ∃ j, n = j + 1 := ⟨n - 1, by omega⟩
      rw [fX4_product_7, i_60, if_pos ((n_le (by omega) (by omega)).mpr (by omega))]
      exact h
    | succ k ih =>
      intro y n z h1 h2 h
      obtain ⟨n, rfl⟩ : ∃ j, n = j + 1 := ⟨n - 1, by omega⟩
      rw [fX4_product_7, i_60, if_neg (fun z => by have := (n_le (by omega) (by omega)).mp z; omega)]
      have g := e z (fun by2 σb => fX4_product_7 x kF n by2 σb) (nI y) (fun z h => by
        rw [i_1, n_add]; exact ih (y + 1) n z (by omega) (by omega) h) h
      repeat (first | exact g | exact h | split)
  unfold fX4_product
  exact kb (hF _ h) fun _ z h => l 60 0 FU z (by omega) (by unfold FU; omega) h
theorem k_sum {x : Int32} {kF : Int32 → Zs → Option (Unit × Zs)} (hF : ∀ z, St S b σ0 z → Wp1 (kF x z) fun _ => St S b σ0) (h : St S b σ0 z) : Wp1 (fX4_sum x kF z) fun _ => St S b σ0 := by
  have e : ∀ (z : Zs) (k7 : Int32 → Zs → Option (Unit × Zs)) (y : Int32), (∀ z, St S b σ0 z → Wp1 (k7 (y + 1) z) fun _ => St S b σ0) → St S b σ0 z → Wp1 (fX4_sum_31 x kF k7 y z) fun _ => St S b σ0 := by
    intro z k7 y hk h
    unfold fX4_sum_31
    exact kb (k_takeIn' h) fun _ _ h => kb (k_product hF h) fun _ _ h => kb (k_emit h) fun _ _ h => hk _ h
  have l : ∀ (k y n : Nat) (z : Zs), y + k = 60 → k < n → St S b σ0 z → Wp1 (fX4_sum_7 x kF n (nI y) z) fun _ => St S b σ0 := by
    intro k
    induction k with
    | zero =>
      intro y n z h1 h2 h
      obtain ⟨n, rfl⟩ : ∃ j, n = j + 1 := ⟨n - 1, by omega⟩
      rw [fX4_sum_7, i_60, if_pos ((n_le (by omega) (by omega)).mpr (by omega))]
      exact h
    | succ k ih =>
      intro y n z h1 h2 h
      obtain ⟨n, rfl⟩ : ∃ j, n = j + 1 := ⟨n - 1, by omega⟩
      rw [fX4_sum_7, i_60, if_neg (fun z => by have := (n_le (by omega) (by omega)).mp z; omega)]
      have g := e z (fun by2 σb => fX4_sum_7 x kF n by2 σb) (nI y) (fun z h => by
        rw [i_1, n_add]; exact ih (y + 1) n z (by omega) (by omega) h) h
      repeat (first | exact g | exact h | split)
  unfold fX4_sum
  exact kb (k_product hF h) fun _ z h => l 60 0 FU z (by omega) (by unfold FU; omega) h
theorem k_relation {x : Int32} {kF : Int32 → Zs → Option (Unit × Zs)} (hF : ∀ z, St S b σ0 z → Wp1 (kF x z) fun _ => St S b σ0) (h : St S b σ0 z) : Wp1 (fX4_relation x kF z) fun _ => St S b σ0 := by
  have e : ∀ (z : Zs) (y : Int32), St S b σ0 z → Wp1 (fX4_relation_49 x kF y z) fun _ => St S b σ0 := by
    intro z y h
    unfold fX4_relation_49
    exact kb (k_takeIn' h) fun _ _ h => kb (k_sum hF h) fun _ _ h => kb (k_emit h) fun _ _ h => h
  unfold fX4_relation
  refine kb (k_sum hF h) fun _ z h => ?_
  have g := e z (zI z 260 0 0 0) h
  repeat (first | exact g | exact h | split)
theorem k_both {x : Int32} {kF : Int32 → Zs → Option (Unit × Zs)} (hF : ∀ z, St S b σ0 z → Wp1 (kF x z) fun _ => St S b σ0) (h : St S b σ0 z) : Wp1 (fX4_both x kF z) fun _ => St S b σ0 := by
  have l : ∀ (k y n : Nat) (z : Zs), y + k = 60 → k < n → St S b σ0 z → Wp1 (fX4_both_7 x kF n (nI y) z) fun _ => St S b σ0 := by
    intro k
    induction k with
    | zero =>
      intro y n z h1 h2 h
      obtain ⟨n, rfl⟩ : ∃ j, n = j + 1 := ⟨n - 1, by omega⟩
      rw [fX4_both_7, i_60, if_pos ((n_le (by omega) (by omega)).mpr (by omega))]
      exact h
    | succ k ih =>
      intro y n z h1 h2 h
      obtain ⟨n, rfl⟩ : ∃ j, n = j + 1 := ⟨n - 1, by omega⟩
      rw [fX4_both_7, i_60, if_neg (fun z => by have := (n_le (by omega) (by omega)).mp z; omega), i_1, n_add]
      split
      · exact kb (k_takeIn' h) fun _ _ h => kb (k_relation hF h) fun _ _ h => kb (k_emit h) fun _ z h => ih (y + 1) n z (by omega) (by omega) h
      · exact h
  unfold fX4_both
  exact kb (k_relation hF h) fun _ z h => l 60 0 FU z (by omega) (by unfold FU; omega) h
theorem k_expression {x : Int32} {kF : Int32 → Zs → Option (Unit × Zs)} (hF : ∀ z, St S b σ0 z → Wp1 (kF x z) fun _ => St S b σ0) (h : St S b σ0 z) : Wp1 (fX4_expression x kF z) fun _ => St S b σ0 := by
  have l : ∀ (k y n : Nat) (z : Zs), y + k = 60 → k < n → St S b σ0 z → Wp1 (fX4_expression_7 x kF n (nI y) z) fun _ => St S b σ0 := by
    intro k
    induction k with
    | zero =>
      intro y n z h1 h2 h
      obtain ⟨n, rfl⟩ : ∃ j, n = j + 1 := ⟨n - 1, by omega⟩
      rw [fX4_expression_7, i_60, if_pos ((n_le (by omega) (by omega)).mpr (by omega))]
      exact h
    | succ k ih =>
      intro y n z h1 h2 h
      obtain ⟨n, rfl⟩ : ∃ j, n = j + 1 := ⟨n - 1, by omega⟩
      rw [fX4_expression_7, i_60, if_neg (fun z => by have := (n_le (by omega) (by omega)).mp z; omega), i_1, n_add]
      split
      · exact kb (k_takeIn' h) fun _ _ h => kb (k_both hF h) fun _ _ h => kb (k_emit h) fun _ z h => ih (y + 1) n z (by omega) (by omega) h
      · exact h
  unfold fX4_expression
  exact kb (k_both hF h) fun _ z h => l 60 0 FU z (by omega) (by unfold FU; omega) h
theorem k_pfac : ∀ (n δ : Nat), δ ≤ 8 → 9 ≤ n + δ → ∀ z, St S b σ0 z → Wp1 (pfac n (nI δ) z) fun _ => St S b σ0 := by
  intro n
  induction n with
  | zero => intro δ h1 h2; omega
  | succ n ih =>
    intro δ h1 h2 z h
    have e1 : (nI δ : Int32) + 1 = nI (δ + 1) := by rw [i_1, n_add]
    have e8 : (nI δ : Int32) + 1 ≤ 8 → δ + 1 ≤ 8 := fun q => by
      rw [e1, i_8, n_le (by omega) (by omega)] at q; exact q
    unfold pfac
    refine k_factor (fun q z h => ?_) (fun q z h => ?_) h
    · rw [e1]
      exact k_expression (fun z h => ih (δ + 1) (e8 q) (by omega) z h) h
    · rw [e1]
      exact ih (δ + 1) (e8 q) (by omega) z h
theorem k_expression' (h : St S b σ0 z) {δ : Nat} (hd : δ ≤ 8) : Wp1 (fX4_expression (nI δ) (pfac 10) z) fun _ => St S b σ0 := k_expression (fun z h => k_pfac 10 δ hd (by omega) z h) h
theorem k_whole (h : St S b σ0 z) (hb : b ≤ 1) : Wp1 (fX4_wholeExpression z) fun _ => St S b σ0 := by
  unfold fX4_wholeExpression
  rw [lt_k]
  refine kb (k_startExpression (h.I (w0 rfl) rfl)) fun _ _ h => kb ?_ fun _ _ h => kb (k_endExpression h hb) fun _ _ h => h
  exact k_expression' h (δ := 0) (by omega)
-- items
theorem k_newColumns (h : St S 0 σ0 z) : Wp1 (fX4_newColumns z) fun _ => St S 0 σ0 := by
  have l : ∀ (k y n : Nat) (z : Zs), y + k = 1500 → k < n → St S 0 σ0 z → Wp1 (fX4_newColumns_9 n (nI y) z) fun _ => St S 0 σ0 := by
    intro k
    induction k with
    | zero =>
      intro y n z h1 h2 h
      obtain ⟨n, rfl⟩ : ∃ j, n = j + 1 := ⟨n - 1, by omega⟩
      rw [fX4_newColumns_9, i_1500, if_pos ((n_le (by omega) (by omega)).mpr (by omega))]
      exact h
    | succ k ih =>
      intro y n z h1 h2 h
      obtain ⟨n, rfl⟩ : ∃ j, n = j + 1 := ⟨n - 1, by omega⟩
      have g : Wp1 (fX4_newColumns_29 (fun by1 σb => fX4_newColumns_9 n by1 σb) (nI y) z) fun _ => St S 0 σ0 := by
        unfold fX4_newColumns_29
        refine kb (k_takeComma h) fun _ _ h => kb (k_takeName h (by omega) (Or.inr rfl)) fun _ _ h => kb (k_take h) fun _ _ h => kb (k_whole h (by omega)) fun _ z h => ?_
        rw [i_1, n_add]
        exact ih (y + 1) n z (by omega) (by omega) h
      rw [fX4_newColumns_9, i_1500, if_neg (fun z => by have := (n_le (by omega) (by omega)).mp z; omega)]
      repeat (first | exact g | exact h | split)
  unfold fX4_newColumns
  exact kb (k_take h) fun _ z h => l 1500 0 FU z (by omega) (by unfold FU; omega) h
theorem k_window (h : St S 0 σ0 z) : Wp1 (fX4_window z) fun _ => St S 0 σ0 := by
  have l : ∀ (k y n : Nat) (z : Zs), y + k = 1500 → k < n → St S 0 σ0 z → Wp1 (fX4_window_44 n (nI y) z) fun _ => St S 0 σ0 := by
    intro k
    induction k with
    | zero =>
      intro y n z h1 h2 h
      obtain ⟨n, rfl⟩ : ∃ j, n = j + 1 := ⟨n - 1, by omega⟩
      rw [fX4_window_44, i_1500, if_pos ((n_le (by omega) (by omega)).mpr (by omega))]
      exact kb (k_take h) fun _ _ h => h
    | succ k ih =>
      intro y n z h1 h2 h
      obtain ⟨n, rfl⟩ : ∃ j, n = j + 1 := ⟨n - 1, by omega⟩
      have g : Wp1 (fX4_window_64 (fun by1 σb => fX4_window_44 n by1 σb) (nI y) z) fun _ => St S 0 σ0 := by
        unfold fX4_window_64
        refine kb (k_takeComma h) fun _ _ h => kb (k_takeName h (by omega) (Or.inr rfl)) fun _ _ h => kb (k_take h) fun _ _ h => kb (k_takeTotal h) fun _ z h => ?_
        rw [i_1, n_add]
        split
        · exact ih (y + 1) n z (by omega) (by omega) h
        · exact kb (k_whole h (by omega)) fun _ z h => ih (y + 1) n z (by omega) (by omega) h
      have g2 : Wp1 (bq (fX4_take 41 z) fun v13 σ14 => some ((), σ14)) fun _ => St S 0 σ0 := kb (k_take h) fun _ _ h => h
      rw [fX4_window_44, i_1500, if_neg (fun z => by have := (n_le (by omega) (by omega)).mp z; omega)]
      repeat (first | exact g | exact g2 | split)
  have e : ∀ z, St S 0 σ0 z → Wp1 (bq (fX4_take 40 z) fun v9 σ10 => fX4_window_44 FU 0 σ10) fun _ => St S 0 σ0 := fun z h => kb (k_take h) fun _ z h => l 1500 0 FU z (by omega) (by unfold FU; omega) h
  unfold fX4_window
  refine kb (k_take h) fun _ _ h => kb (k_takeName h (by omega) (Or.inr rfl)) fun _ _ h => kb (k_takeRange h) fun _ z h => ?_
  split
  · exact kb (k_takeRange h) fun _ z h => e z h
  · exact e z h
theorem k_source (h : St0 S σ0 z) : Wp1 (fX4_source z) fun _ => St0 S σ0 := by
  unfold fX4_source
  refine kb (k_startStream h) fun _ _ h => kb (k_startWork h) fun _ _ h => kb (k_take h) fun _ _ h => kb (k_takeName h (by omega) (Or.inr rfl)) fun _ _ h => kb (k_takeNames h) fun _ z h => ?_
  split
  · exact kb (k_takeRange h) fun _ _ h => kb0 (k_endStream h) fun _ _ h => h
  · exact kb0 (k_endStream h) fun _ _ h => h
theorem k_check (h : St0 S σ0 z) : Wp1 (fX4_check z) fun _ => St0 S σ0 := by
  unfold fX4_check
  refine kb (k_startCheck h) fun _ _ h => kb (k_take h) fun _ _ h => kb (k_takeName h (by omega) (Or.inl rfl)) fun _ _ h => kb (k_take h) fun _ _ h => kb (k_whole h (by omega)) fun _ _ h => kb (k_take h) fun _ z h => ?_
  repeat (first | exact kb (k_take h) fun _ _ h => kb0 (k_endCheck h) fun _ _ h => h | exact kb (k_fail h) fun _ _ h => h.2 | split)
theorem wp_ite {c : Prop} [Decidable c] {a b : Option (α × Zs)} {Q : α → Zs → Prop} (h : Wp1 a Q) (k : Wp1 b Q) : Wp1 (if c then a else b) Q := by
  by_cases q : c
  · rw [if_pos q]; exact h
  · rw [if_neg q]; exact k
theorem k_step (h : St0 S σ0 z) : Wp1 (fX4_step z) fun _ => St0 S σ0 := by
  have e0 : ∀ z, St S 0 σ0 z → Wp1 (bq (fX3_endStream z) fun v σ => some ((), σ)) fun _ => St0 S σ0 := fun z h => kb0 (k_endStream h) fun _ _ h => h
  have e : ∀ (y : Int32) (z : Zs), St S 0 σ0 z → Wp1 (fX4_step_45 y z) fun _ => St0 S σ0 := by
    intro y z h
    unfold fX4_step_45
    obtain ⟨v, e1⟩ := k_kow (z := z) y
    rw [bq_e e1]
    refine kb (k_startWork h) fun _ _ h => kb (k_take h) fun _ _ h => kb (k_takeName h (by omega) (Or.inr rfl)) fun _ z h => ?_
    repeat (first
      | exact e0 z h
      | exact kb (k_take h) fun _ _ h => kb (k_whole h (by omega)) fun _ z h => e0 z h
      | exact kb (k_newColumns h) fun _ z h => e0 z h
      | exact kb (k_takeNames h) fun _ z h => e0 z h
      | exact kb (k_secondInput h) fun _ z h => e0 z h
      | exact kb (k_secondInput h) fun _ _ h => kb (k_take h) fun _ _ h => kb (k_takeName h (by omega) (Or.inr rfl)) fun _ _ h => kb (k_takeRange h) fun _ z h => e0 z h
      | exact kb (k_take h) fun _ _ h => kb (k_takeName h (by omega) (Or.inr rfl)) fun _ _ h => kb (k_takeRange h) fun _ z h => e0 z h
      | exact kb (k_window h) fun _ z h => e0 z h
      | refine wp_ite ?_ ?_)
  unfold fX4_step
  refine kb (k_startStream h) fun _ _ h => kb (k_take h) fun _ _ h => kb (k_takeName h (by omega) (Or.inr rfl)) fun _ _ h => kb (k_take h) fun _ z h => ?_
  obtain ⟨v, e1⟩ := k_kow (z := z) (zI z 260 0 0 0)
  rw [bq_e e1]
  split
  · exact kb (k_fail h) fun _ z h => e _ z h
  · exact e _ z h
theorem k_item (h : St0 S σ0 z) : ∀ k16 : Zs → Option (Int32 × Zs), (∀ z, St0 S σ0 z → Wp1 (k16 z) fun _ => St0 S σ0) → Wp1 (fX4_parse_41 (fun _ z => k16 z) 0 z) fun _ => St0 S σ0 := by
  intro k16 hk
  unfold fX4_parse_41
  split
  · exact kb0 (k_source h) fun _ z h => hk z h
  · split
    · exact kb0 (k_step h) fun _ z h => hk z h
    · split
      · exact kb0 (k_check h) fun _ z h => hk z h
      · exact kb0 (k_fail0 h) fun _ z h => hk z h
theorem k_parse16 : ∀ (k y n : Nat) (z : Zs), y + k = 1500 → k < n → St0 S σ0 z → Wp1 (fX4_parse_16 n (nI y) z) fun v z' => St0 S σ0 z' ∧ v = zI z' 258 0 0 0 := by
  intro k
  induction k with
  | zero =>
    intro y n z h1 h2 h
    obtain ⟨n, rfl⟩ : ∃ j, n = j + 1 := ⟨n - 1, by omega⟩
    rw [fX4_parse_16, i_1500, if_pos ((n_le (by omega) (by omega)).mpr (by omega))]
    exact ⟨h, rfl⟩
  | succ k ih =>
    intro y n z h1 h2 h
    obtain ⟨n, rfl⟩ : ∃ j, n = j + 1 := ⟨n - 1, by omega⟩
    have g : Wp1 (fX4_parse_41 (fun by1 σb => fX4_parse_16 n by1 σb) (nI y) z) fun v z' => St0 S σ0 z' ∧ v = zI z' 258 0 0 0 := by
      have hk : ∀ z, St0 S σ0 z → Wp1 (fX4_parse_16 n (nI y + 1) z) fun v z' => St0 S σ0 z' ∧ v = zI z' 258 0 0 0 := fun z h => by
        rw [i_1, n_add]; exact ih (y + 1) n z (by omega) (by omega) h
      unfold fX4_parse_41
      split
      · exact kb0 (k_source h) fun _ z h => hk z h
      · split
        · exact kb0 (k_step h) fun _ z h => hk z h
        · split
          · exact kb0 (k_check h) fun _ z h => hk z h
          · exact kb0 (k_fail0 h) fun _ z h => hk z h
    rw [fX4_parse_16, i_1500, if_neg (fun z => by have := (n_le (by omega) (by omega)).mp z; omega)]
    repeat (first | exact g | exact ⟨h, rfl⟩ | split)
end KQ
