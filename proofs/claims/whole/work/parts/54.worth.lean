/-! EXPRESSIONS: what the class's code and the law's code yield is the same -/
theorem jJ_self (z : Zs) (c p s : Nat) : jJ z c p s (zJ z c p s) = z := by
  refine zs_ext (fun _ _ _ _ => rfl) (fun c' p' s' i' => ?_) (fun _ _ _ _ => rfl)
  rw [zJ_jJ]
  by_cases h : c' = c ∧ p' = p ∧ s' = s
  · rw [if_pos h]; obtain ⟨rfl, rfl, rfl⟩ := h; rfl
  · rw [if_neg h]
theorem jJ_sJ (z : Zs) (c p s i : Nat) (x : Int64) (f : Nat → Int64) : jJ (sJ z c p s i x) c p s f = jJ z c p s f := by rw [sJ_j, jJ_jJ]
theorem opF_c {c b : Int32} (h : opF opT c = some b) : (c = 43 ∧ b = 10) ∨ (c = 45 ∧ b = 11) ∨ (c = 42 ∧ b = 12) ∨ (c = 47 ∧ b = 13) ∨ (c = 37 ∧ b = 14) ∨ (c = 61 ∧ b = 20) ∨ (c = 15422 ∧ b = 21) ∨ (c = 60 ∧ b = 22) ∨ (c = 62 ∧ b = 23) ∨ (c = 15421 ∧ b = 24) ∨ (c = 15933 ∧ b = 25) ∨ (c = 156 ∧ b = 30) ∨ (c = 157 ∧ b = 31) ∨ (c = 152 ∧ b = 32) ∨ (c = 153 ∧ b = 33) := by
  have key : ∀ (l : List (Int32 × Int32)), opF l c = some b → (c, b) ∈ l := by
    intro l
    induction l with
    | nil => intro h; cases h
    | cons o l ih =>
      intro h
      obtain ⟨x, y⟩ := o
      unfold opF at h
      by_cases q : c = x
      · rw [if_pos q] at h
        cases h
        subst q
        exact List.mem_cons_self
      · rw [if_neg q] at h
        exact List.mem_cons_of_mem _ (ih h)
  have := key opT h
  simpa only [opT, List.mem_cons, List.not_mem_nil, or_false, Prod.mk.injEq] using this
theorem r_two {c b : Int32} (h : opF opT c = some b) (x y : Int64) (σ ρ : Zs) : ∃ v, fX5_binary c x y σ = some (v, σ) ∧ fX14_two b x y ρ = some (v, ρ) := by
  rcases opF_c h with ⟨rfl, rfl⟩ | ⟨rfl, rfl⟩ | ⟨rfl, rfl⟩ | ⟨rfl, rfl⟩ | ⟨rfl, rfl⟩ | ⟨rfl, rfl⟩ | ⟨rfl, rfl⟩ | ⟨rfl, rfl⟩ | ⟨rfl, rfl⟩ | ⟨rfl, rfl⟩ | ⟨rfl, rfl⟩ | ⟨rfl, rfl⟩ | ⟨rfl, rfl⟩ | ⟨rfl, rfl⟩ | ⟨rfl, rfl⟩
  · refine ⟨x + y, ?_, ?_⟩
    · simp +decide only [fX5_binary, ↓reduceIte]
    · simp +decide only [fX14_two, ↓reduceIte]
  · refine ⟨x - y, ?_, ?_⟩
    · simp +decide only [fX5_binary, ↓reduceIte]
    · simp +decide only [fX14_two, ↓reduceIte]
  · refine ⟨x * y, ?_, ?_⟩
    · simp +decide only [fX5_binary, ↓reduceIte]
    · simp +decide only [fX14_two, ↓reduceIte]
  · by_cases q : y = 0
    · have q1 : lg_cmp y 0 = 0 := l_cmp0.mpr q
      refine ⟨0, ?_, ?_⟩
      · simp +decide only [fX5_binary, ↓reduceIte, q1]
      · simp +decide only [fX14_two, ↓reduceIte, q1]
    · have q1 : ¬ lg_cmp y 0 = 0 := fun q2 => q (l_cmp0.mp q2)
      refine ⟨x / y, ?_, ?_⟩
      · simp +decide only [fX5_binary, ↓reduceIte, q1, q, not_false_eq_true]
      · simp +decide only [fX14_two, ↓reduceIte, q1, q, not_false_eq_true]
  · by_cases q : y = 0
    · have q1 : lg_cmp y 0 = 0 := l_cmp0.mpr q
      refine ⟨0, ?_, ?_⟩
      · simp +decide only [fX5_binary, ↓reduceIte, q1]
      · simp +decide only [fX14_two, ↓reduceIte, q1]
    · have q1 : ¬ lg_cmp y 0 = 0 := fun q2 => q (l_cmp0.mp q2)
      refine ⟨x - x / y * y, ?_, ?_⟩
      · simp +decide only [fX5_binary, ↓reduceIte, q1, q, not_false_eq_true]
      · simp +decide only [fX14_two, ↓reduceIte, q1, q, not_false_eq_true]
  · by_cases q : lg_cmp x y = 0
    · exact ⟨1, by simp +decide only [fX5_binary, ↓reduceIte, q], by simp +decide only [fX14_two, ↓reduceIte, q]⟩
    · exact ⟨0, by simp +decide only [fX5_binary, ↓reduceIte, q], by simp +decide only [fX14_two, ↓reduceIte, q]⟩
  · by_cases q : lg_cmp x y = 0
    · exact ⟨0, by simp +decide only [fX5_binary, ↓reduceIte, q], by simp +decide only [fX14_two, ↓reduceIte, q]⟩
    · exact ⟨1, by simp +decide only [fX5_binary, ↓reduceIte, q], by simp +decide only [fX14_two, ↓reduceIte, q]⟩
  · by_cases q : 0 ≤ lg_cmp x y
    · exact ⟨0, by simp +decide only [fX5_binary, ↓reduceIte, q], by simp +decide only [fX14_two, ↓reduceIte, q]⟩
    · exact ⟨1, by simp +decide only [fX5_binary, ↓reduceIte, q], by simp +decide only [fX14_two, ↓reduceIte, q]⟩
  · by_cases q : lg_cmp x y ≤ 0
    · exact ⟨0, by simp +decide only [fX5_binary, ↓reduceIte, q], by simp +decide only [fX14_two, ↓reduceIte, q]⟩
    · exact ⟨1, by simp +decide only [fX5_binary, ↓reduceIte, q], by simp +decide only [fX14_two, ↓reduceIte, q]⟩
  · by_cases q : 0 < lg_cmp x y
    · exact ⟨0, by simp +decide only [fX5_binary, ↓reduceIte, q], by simp +decide only [fX14_two, ↓reduceIte, q]⟩
    · exact ⟨1, by simp +decide only [fX5_binary, ↓reduceIte, q], by simp +decide only [fX14_two, ↓reduceIte, q]⟩
  · by_cases q : lg_cmp x y < 0
    · exact ⟨0, by simp +decide only [fX5_binary, ↓reduceIte, q], by simp +decide only [fX14_two, ↓reduceIte, q]⟩
    · exact ⟨1, by simp +decide only [fX5_binary, ↓reduceIte, q], by simp +decide only [fX14_two, ↓reduceIte, q]⟩
  · by_cases q : lg_cmp x 0 = 0
    · exact ⟨0, by simp +decide only [fX5_binary, ↓reduceIte, q], by simp +decide only [fX14_two, ↓reduceIte, q]⟩
    · by_cases q2 : lg_cmp y 0 = 0
      · exact ⟨0, by simp +decide only [fX5_binary, ↓reduceIte, q, q2], by simp +decide only [fX14_two, ↓reduceIte, q, q2]⟩
      · exact ⟨1, by simp +decide only [fX5_binary, ↓reduceIte, q, q2], by simp +decide only [fX14_two, ↓reduceIte, q, q2]⟩
  · by_cases q : lg_cmp x 0 = 0
    · by_cases q2 : lg_cmp y 0 = 0
      · exact ⟨0, by simp +decide only [fX5_binary, ↓reduceIte, q, q2], by simp +decide only [fX14_two, ↓reduceIte, q, q2]⟩
      · exact ⟨1, by simp +decide only [fX5_binary, ↓reduceIte, q, q2], by simp +decide only [fX14_two, ↓reduceIte, q, q2]⟩
    · exact ⟨1, by simp +decide only [fX5_binary, ↓reduceIte, q], by simp +decide only [fX14_two, ↓reduceIte, q]⟩
  · refine ⟨p_lmin x y, ?_, by simp +decide only [fX14_two, ↓reduceIte]⟩
    simp +decide only [fX5_binary, ↓reduceIte]
    unfold p_lmin
    by_cases q : y < x
    · have q1 : 0 ≤ lg_cmp x y := l_cmpge.mpr (l_nlt.mp (fun q2 => absurd (Int64.lt_trans q q2) Int64.lt_irrefl))
      simp only [q, q1, ↓reduceIte]
    · by_cases q2 : x = y
      · subst q2
        simp only [q, ↓reduceIte, ite_self]
      · have q1 : ¬ 0 ≤ lg_cmp x y := by
          intro q3
          have q4 := l_cmpge.mp q3
          have q5 := l_nlt.mp q
          rw [Int64.le_iff_toInt_le] at q4 q5
          exact q2 (Int64.toInt_inj.mp (by omega))
        simp only [q, q1, ↓reduceIte]
  · refine ⟨p_lmax x y, ?_, by simp +decide only [fX14_two, ↓reduceIte]⟩
    simp +decide only [fX5_binary, ↓reduceIte]
    unfold p_lmax
    by_cases q : y < x
    · have q1 : ¬ lg_cmp x y ≤ 0 := by
        intro q2
        have q2 := l_cmple.mp q2
        rw [Int64.le_iff_toInt_le] at q2
        rw [Int64.lt_iff_toInt_lt] at q
        omega
      simp only [q, q1, ↓reduceIte]
    · have q1 : lg_cmp x y ≤ 0 := l_cmple.mpr (l_nlt.mp q)
      simp only [q, q1, ↓reduceIte]
/-- a row of the class and the same one in a row of numbers of the law's -/
def RowR (p s : Nat) (σ : Zs) (c2 p2 s2 off W : Nat) (ρ : Zs) : Prop := (∃ t, t < 2147483648 ∧ zI σ 384 p s 0 = nI t ∧ zJ ρ c2 p2 s2 off = lN t) ∧ ∀ i, i < W → zJ σ 1410 p s i = zJ ρ c2 p2 s2 (off + 1 + i)
section K54
variable {P g p3 s3 c2 p2 s2 n2 off W L e : Nat} {x1 y1 : Int32} {σ ρ : Zs} {n m h j t q : Nat}
theorem k_num (h1 : ¬ j < 0) (h2 : ¬ e ≤ j) (h3 : ¬ L ≤ j) (hj : j < 1500) (he : e < 2147483648) (hL : L ≤ 1500) (hl : zI σ 326 P 0 0 = nI L) (ho : zI σ 1348 P 0 j = 3) (hh : h < 60) (hh2 : ¬ 60 ≤ h) :
    fX5_reckon_6 P x1 (nI e) p3 s3 (n + 1) (nI h) (nI j) σ = fX5_reckon_6 P x1 (nI e) p3 s3 n (nI (h + 1)) (nI (j + 1)) (sJ σ 1351 P 0 h (zJ σ 1349 P 0 j)) := by
  rw [fX5_reckon_6]
  simp (disch := omega) only [i_0, i_1, i_2, i_60, n_lt, n_le, n_gi, n_cl, n_add, n_p1, n_sub, hl, h1, h2, h3, hj, ↓reduceIte, lt_k, bq_s, ho, hh, hh2, fX5_reckon_55]
  rfl
theorem k_tim (h1 : ¬ j < 0) (h2 : ¬ e ≤ j) (h3 : ¬ L ≤ j) (hj : j < 1500) (he : e < 2147483648) (hL : L ≤ 1500) (hl : zI σ 326 P 0 0 = nI L) (ho : zI σ 1348 P 0 j = 155) (hh : h < 60) (hh2 : ¬ 60 ≤ h) (ht : zI σ 384 p3 s3 0 = nI t) (ht2 : t < 2147483648) :
    fX5_reckon_6 P x1 (nI e) p3 s3 (n + 1) (nI h) (nI j) σ = fX5_reckon_6 P x1 (nI e) p3 s3 n (nI (h + 1)) (nI (j + 1)) (sJ σ 1351 P 0 h (lN t)) := by
  rw [fX5_reckon_6]
  simp (disch := omega) only [i_0, i_1, i_2, i_60, n_lt, n_le, n_gi, n_cl, n_add, n_p1, n_sub, hl, h1, h2, h3, hj, ↓reduceIte, lt_k, bq_s, ho, hh, hh2, fX5_reckon_55, ht, n_i64]
  rfl
theorem k_col (h1 : ¬ j < 0) (h2 : ¬ e ≤ j) (h3 : ¬ L ≤ j) (hj : j < 1500) (he : e < 2147483648) (hL : L ≤ 1500) (hl : zI σ 326 P 0 0 = nI L) (ho : zI σ 1348 P 0 j = 2) (hv : zJ σ 1349 P 0 j = lN q) (hq : q < 6) (hq2 : ¬ 6 ≤ q) (hh : h < 60) (hh2 : ¬ 60 ≤ h) :
    fX5_reckon_6 P x1 (nI e) p3 s3 (n + 1) (nI h) (nI j) σ = fX5_reckon_6 P x1 (nI e) p3 s3 n (nI (h + 1)) (nI (j + 1)) (sJ σ 1351 P 0 h (zJ σ 1410 p3 s3 q)) := by
  have e1 : fX6_numberAt p3 s3 (nI q) σ = some (zJ σ 1410 p3 s3 q, σ) := by
    rw [fX6_numberAt]
    have h4 : ¬ q < 0 := by omega
    simp (disch := omega) only [i_0, i_6, n_lt, n_le, n_gi, n_cl, h4, hq, hq2, ↓reduceIte]
  rw [fX5_reckon_6]
  simp (disch := omega) only [i_0, i_1, i_2, i_60, n_lt, n_le, n_gi, n_cl, n_add, n_p1, n_sub, hl, h1, h2, h3, hj, ↓reduceIte, lt_k, bq_s, ho, hh, hh2, fX5_reckon_55, hv, lN_i, e1]
  rfl
theorem k_un {v : Int64} (h1 : ¬ j < 0) (h2 : ¬ e ≤ j) (h3 : ¬ L ≤ j) (hj : j < 1500) (he : e < 2147483648) (hL : L ≤ 1500) (hl : zI σ 326 P 0 0 = nI L) {c : Int32} (hc : c = 158 ∨ c = 160 ∨ c = 159) (ho : zI σ 1348 P 0 j = c) (hh : 1 ≤ h) (hh2 : ¬ h ≤ 0) (hh3 : h - 1 < 60) (hu : fX5_unary c (zJ σ 1351 P 0 (h - 1)) σ = some (v, σ)) :
    fX5_reckon_6 P x1 (nI e) p3 s3 (n + 1) (nI h) (nI j) σ = fX5_reckon_6 P x1 (nI e) p3 s3 n (nI h) (nI (j + 1)) (sJ σ 1351 P 0 (h - 1) v) := by
  rw [fX5_reckon_6]
  rcases hc with rfl | rfl | rfl
  · simp (disch := omega) only [i_0, i_1, i_2, i_60, n_lt, n_le, n_gi, n_cl, n_add, n_p1, n_sub, hl, h1, h2, h3, hj, ↓reduceIte, lt_k, bq_s, ho, hh2, hh3, fX5_reckon_146, hu]
    rfl
  · simp (disch := omega) only [i_0, i_1, i_2, i_60, n_lt, n_le, n_gi, n_cl, n_add, n_p1, n_sub, hl, h1, h2, h3, hj, ↓reduceIte, lt_k, bq_s, ho, hh2, hh3, fX5_reckon_146, hu]
    rfl
  · simp (disch := omega) only [i_0, i_1, i_2, i_60, n_lt, n_le, n_gi, n_cl, n_add, n_p1, n_sub, hl, h1, h2, h3, hj, ↓reduceIte, lt_k, bq_s, ho, hh2, hh3, fX5_reckon_146, hu]
    rfl
theorem k_bi {v : Int64} (h1 : ¬ j < 0) (h2 : ¬ e ≤ j) (h3 : ¬ L ≤ j) (hj : j < 1500) (he : e < 2147483648) (hL : L ≤ 1500) (hl : zI σ 326 P 0 0 = nI L) {c b : Int32} (hc : opF opT c = some b) (ho : zI σ 1348 P 0 j = c) (hh : 2 ≤ h) (hh2 : ¬ h ≤ 1) (hh3 : h - 1 < 60) (hh4 : h - 1 - 1 < 60) (hu : fX5_binary c (zJ σ 1351 P 0 (h - 1 - 1)) (zJ σ 1351 P 0 (h - 1)) σ = some (v, σ)) :
    fX5_reckon_6 P x1 (nI e) p3 s3 (n + 1) (nI h) (nI j) σ = fX5_reckon_6 P x1 (nI e) p3 s3 n (nI (h - 1)) (nI (j + 1)) (sJ σ 1351 P 0 (h - 1 - 1) v) := by
  rw [fX5_reckon_6]
  have g : c ≠ 3 ∧ c ≠ 2 ∧ c ≠ 155 ∧ c ≠ 160 ∧ c ≠ 158 ∧ c ≠ 159 := by
    rcases opF_c hc with ⟨rfl, _⟩ | ⟨rfl, _⟩ | ⟨rfl, _⟩ | ⟨rfl, _⟩ | ⟨rfl, _⟩ | ⟨rfl, _⟩ | ⟨rfl, _⟩ | ⟨rfl, _⟩ | ⟨rfl, _⟩ | ⟨rfl, _⟩ | ⟨rfl, _⟩ | ⟨rfl, _⟩ | ⟨rfl, _⟩ | ⟨rfl, _⟩ | ⟨rfl, _⟩ <;> decide
  obtain ⟨g1, g2, g3, g4, g5, g6⟩ := g
  rw [← ho] at hu g1 g2 g3 g4 g5 g6
  rw [i_3] at g1
  rw [i_2] at g2
  simp (disch := omega) only [i_0, i_1, i_2, i_3, i_60, n_lt, n_le, n_gi, n_cl, n_add, n_p1, n_sub, hl, h1, h2, h3, hj, ↓reduceIte, lt_k, bq_s, g1, g2, g3, g4, g5, g6, hh2, hh3, hh4, hu]
theorem k_end (hh : zI σ 326 P 0 0 = nI L) (he : e < 2147483648) : fX5_reckon_6 P x1 (nI e) p3 s3 (n + 1) (nI 1) (nI e) σ = some (zJ σ 1351 P 0 0, σ) := by
  rw [fX5_reckon_6]
  have h4 : ¬ e < 0 := by omega
  have h5 : ¬ (1 : Nat) ≤ 0 := by omega
  have h6 : (0 : Nat) < 60 := by omega
  simp (disch := omega) only [i_0, i_1, i_60, n_lt, n_le, n_gi, n_cl, n_add, h4, h5, h6, Nat.le_refl, ↓reduceIte]
end K54
section K54b
variable {g c2 p2 s2 n2 off : Nat} {y1 : Int32} {ρ : Zs} {m h j q : Nat}
theorem v_num (hz : zR ρ 898 0 0 0 = (g, 0)) (hj : j < 3000) (ho : zI ρ 1810 g 0 j = 0) (hh : h < 64) : fX14_worth_6 y1 c2 p2 s2 n2 (nI off) (m + 1) (nI h) (nI j) ρ = fX14_worth_6 y1 c2 p2 s2 n2 (nI off) m (nI (h + 1)) (nI (j + 1)) (sJ ρ 1956 0 0 h (zJ ρ 1811 g 0 j)) := by
  rw [fX14_worth_6]
  have a1 : ¬ (0 : Int32) = 50 := by decide
  have a2 : ¬ (2 : Int32) < 0 := by decide
  simp (disch := omega) only [n_gi, n_cl, hz, ho, hj, hh, a1, a2, ↓reduceIte, lt_k]
  simp (disch := omega) only [i_1, n_add]
theorem v_tim (hz : zR ρ 898 0 0 0 = (g, 0)) (hj : j < 3000) (ho : zI ρ 1810 g 0 j = 2) (hh : h < 64) (hoff : off < n2) (hn2 : n2 < 2147483648) : fX14_worth_6 y1 c2 p2 s2 n2 (nI off) (m + 1) (nI h) (nI j) ρ = fX14_worth_6 y1 c2 p2 s2 n2 (nI off) m (nI (h + 1)) (nI (j + 1)) (sJ ρ 1956 0 0 h (zJ ρ c2 p2 s2 off)) := by
  rw [fX14_worth_6]
  have a1 : ¬ (2 : Int32) = 50 := by decide
  have a2 : ¬ (2 : Int32) < 2 := by decide
  have a3 : ¬ (2 : Int32) = 0 := by decide
  simp (disch := omega) only [n_gi, n_cl, hz, ho, hj, hh, a1, a2, a3, hoff, ↓reduceIte, lt_k]
  simp (disch := omega) only [i_1, n_add]
theorem v_col (hz : zR ρ 898 0 0 0 = (g, 0)) (hj : j < 3000) (ho : zI ρ 1810 g 0 j = 1) (hv : zJ ρ 1811 g 0 j = lN q) (hh : h < 64) (hoff : off + 1 + q < n2) (hn2 : n2 < 2147483648) : fX14_worth_6 y1 c2 p2 s2 n2 (nI off) (m + 1) (nI h) (nI j) ρ = fX14_worth_6 y1 c2 p2 s2 n2 (nI off) m (nI (h + 1)) (nI (j + 1)) (sJ ρ 1956 0 0 h (zJ ρ c2 p2 s2 (off + 1 + q))) := by
  rw [fX14_worth_6]
  have a1 : ¬ (1 : Int32) = 50 := by decide
  have a2 : ¬ (2 : Int32) < 1 := by decide
  have a3 : ¬ (1 : Int32) = 0 := by decide
  have a4 : ¬ (1 : Int32) = 2 := by decide
  simp (disch := omega) only [n_gi, n_cl, hz, ho, hv, hj, hh, a1, a2, a3, a4, lN_i, ↓reduceIte, lt_k]
  simp (disch := omega) only [i_1, n_add, n_gi, n_cl, hoff, ↓reduceIte, lt_k]
theorem v_not (hz : zR ρ 898 0 0 0 = (g, 0)) (hj : j < 3000) (ho : zI ρ 1810 g 0 j = 40) (hh : 1 ≤ h) (hh2 : h - 1 < 64) : fX14_worth_6 y1 c2 p2 s2 n2 (nI off) (m + 1) (nI h) (nI j) ρ = fX14_worth_6 y1 c2 p2 s2 n2 (nI off) m (nI h) (nI (j + 1)) (sJ ρ 1956 0 0 (h - 1) (if lg_cmp (zJ ρ 1956 0 0 (h - 1)) 0 = 0 then 1 else 0)) := by
  rw [fX14_worth_6]
  have a1 : ¬ (40 : Int32) = 50 := by decide
  have a2 : (2 : Int32) < 40 := by decide
  have a3 : ¬ (40 : Int32) < 40 := by decide
  simp (disch := omega) only [n_gi, n_cl, hz, ho, hj, a1, a2, a3, ↓reduceIte, lt_k]
  simp (disch := omega) only [i_1, n_add, n_sub, n_gi, n_cl, hh2, ↓reduceIte, lt_k]
  split <;> rfl
theorem v_neg (hz : zR ρ 898 0 0 0 = (g, 0)) (hj : j < 3000) (ho : zI ρ 1810 g 0 j = 41) (hh : 1 ≤ h) (hh2 : h - 1 < 64) : fX14_worth_6 y1 c2 p2 s2 n2 (nI off) (m + 1) (nI h) (nI j) ρ = fX14_worth_6 y1 c2 p2 s2 n2 (nI off) m (nI h) (nI (j + 1)) (sJ ρ 1956 0 0 (h - 1) (-(zJ ρ 1956 0 0 (h - 1)))) := by
  rw [fX14_worth_6]
  have a1 : ¬ (41 : Int32) = 50 := by decide
  have a2 : (2 : Int32) < 41 := by decide
  have a3 : ¬ (41 : Int32) < 40 := by decide
  have a4 : ¬ (41 : Int32) = 40 := by decide
  simp (disch := omega) only [n_gi, n_cl, hz, ho, hj, a1, a2, a3, a4, ↓reduceIte, lt_k]
  simp (disch := omega) only [i_1, n_add, n_sub, n_gi, n_cl, hh2, ↓reduceIte, lt_k]
theorem v_abs (hz : zR ρ 898 0 0 0 = (g, 0)) (hj : j < 3000) (ho : zI ρ 1810 g 0 j = 42) (hh : 1 ≤ h) (hh2 : h - 1 < 64) : fX14_worth_6 y1 c2 p2 s2 n2 (nI off) (m + 1) (nI h) (nI j) ρ = fX14_worth_6 y1 c2 p2 s2 n2 (nI off) m (nI h) (nI (j + 1)) (sJ ρ 1956 0 0 (h - 1) (if 0 ≤ lg_cmp (zJ ρ 1956 0 0 (h - 1)) 0 then zJ ρ 1956 0 0 (h - 1) else -(zJ ρ 1956 0 0 (h - 1)))) := by
  rw [fX14_worth_6]
  have a1 : ¬ (42 : Int32) = 50 := by decide
  have a2 : (2 : Int32) < 42 := by decide
  have a3 : ¬ (42 : Int32) < 40 := by decide
  have a4 : ¬ (42 : Int32) = 40 := by decide
  have a5 : ¬ (42 : Int32) = 41 := by decide
  simp (disch := omega) only [n_gi, n_cl, hz, ho, hj, a1, a2, a3, a4, a5, ↓reduceIte, lt_k]
  simp (disch := omega) only [i_1, n_add, n_sub, n_gi, n_cl, hh2, ↓reduceIte, lt_k]
  split <;> rfl
theorem v_bi {v : Int64} {c b : Int32} (hz : zR ρ 898 0 0 0 = (g, 0)) (hj : j < 3000) (hc : opF opT c = some b) (ho : zI ρ 1810 g 0 j = b) (hh : 2 ≤ h) (hh2 : h - 1 < 64) (hh3 : h - 1 - 1 < 64) (hu : fX14_two b (zJ ρ 1956 0 0 (h - 1 - 1)) (zJ ρ 1956 0 0 (h - 1)) ρ = some (v, ρ)) : fX14_worth_6 y1 c2 p2 s2 n2 (nI off) (m + 1) (nI h) (nI j) ρ = fX14_worth_6 y1 c2 p2 s2 n2 (nI off) m (nI (h - 1)) (nI (j + 1)) (sJ ρ 1956 0 0 (h - 1 - 1) v) := by
  rw [fX14_worth_6]
  have g : ¬ b = 50 ∧ 2 < b ∧ b < 40 := by
    rcases opF_c hc with ⟨_, rfl⟩ | ⟨_, rfl⟩ | ⟨_, rfl⟩ | ⟨_, rfl⟩ | ⟨_, rfl⟩ | ⟨_, rfl⟩ | ⟨_, rfl⟩ | ⟨_, rfl⟩ | ⟨_, rfl⟩ | ⟨_, rfl⟩ | ⟨_, rfl⟩ | ⟨_, rfl⟩ | ⟨_, rfl⟩ | ⟨_, rfl⟩ | ⟨_, rfl⟩ <;> decide
  obtain ⟨a1, a2, a3⟩ := g
  simp (disch := omega) only [n_gi, n_cl, hz, ho, hj, a1, a2, a3, ↓reduceIte, lt_k]
  simp (disch := omega) only [i_1, n_add, n_sub, n_p1, n_gi, n_cl, hh2, hh3, hu, bq_s, ↓reduceIte, lt_k]
theorem v_end (hz : zR ρ 898 0 0 0 = (g, 0)) (hj : j < 3000) (ho : zI ρ 1810 g 0 j = 50) : fX14_worth_6 y1 c2 p2 s2 n2 (nI off) (m + 1) (nI h) (nI j) ρ = some (zJ ρ 1956 0 0 0, ρ) := by
  rw [fX14_worth_6]
  have a1 : (0 : Nat) < 64 := by decide
  simp (disch := omega) only [n_gi, n_cl, hz, ho, hj, ↓reduceIte, lt_k]
  simp (disch := omega) only [i_0, n_gi, n_cl, a1, ↓reduceIte]
end K54b
theorem RowR.up {p s : Nat} {σ : Zs} {c2 p2 s2 off W : Nat} {ρ : Zs} (h : RowR p s σ c2 p2 s2 off W ρ) (hc : c2 ≠ 1956) (P a b : Nat) (x y : Int64) : RowR p s (sJ σ 1351 P 0 a x) c2 p2 s2 off W (sJ ρ 1956 0 0 b y) := by
  obtain ⟨⟨t, h1, h2, h3⟩, h4⟩ := h
  refine ⟨⟨t, h1, h2, ?_⟩, fun i hi => ?_⟩
  · rw [zJ_sJ, if_neg (fun q => hc q.1)]; exact h3
  · rw [zJ_sJ, zJ_sJ, if_neg (fun q => absurd q.1 (by decide)), if_neg (fun q => hc q.1)]; exact h4 i hi
theorem Cg.up {p : Nat} {σ : Zs} {a : Nat} {l : List Op} (h : Cg p σ a l) (P i : Nat) (x : Int64) : Cg p (sJ σ 1351 P 0 i x) a l := by
  intro j hj
  rw [zJ_sJ, if_neg (fun q => absurd q.1 (by decide))]
  exact h j hj
theorem Rg.up {p : Nat} {σ : Zs} {a : Nat} {l : List Op} (h : Rg p σ a l) (i : Nat) (x : Int64) : Rg p (sJ σ 1956 0 0 i x) a l := by
  refine ⟨fun j hj => ?_, h.2⟩
  rw [zJ_sJ, if_neg (fun q => absurd q.1 (by decide))]
  exact h.1 j hj
theorem stk_up {σ ρ : Zs} {P h : Nat} (hs : ∀ j, j < h → zJ σ 1351 P 0 j = zJ ρ 1956 0 0 j) (k i : Nat) (hk : k ≤ h + 1) (hk2 : ∀ j, j < k → j ≠ i → j < h) (x : Int64) : ∀ j, j < k → zJ (sJ σ 1351 P 0 i x) 1351 P 0 j = zJ (sJ ρ 1956 0 0 i x) 1956 0 0 j := by
  intro j hj
  rw [zJ_sJ, zJ_sJ]
  by_cases q : j = i
  · rw [if_pos ⟨rfl, rfl, rfl, q⟩, if_pos ⟨rfl, rfl, rfl, q⟩]
  · rw [if_neg (fun w => q w.2.2.2), if_neg (fun w => q w.2.2.2)]
    exact hs j (hk2 j hj q)
/-- both expressions of a step yield the same; nothing but the two stacks is written -/
theorem r_worth_l {P g p3 s3 c2 p2 s2 n2 off W L e : Nat} {x1 y1 : Int32} (hW : W ≤ 6) (hc2 : c2 ≠ 1956) (hn2 : n2 < 2147483648) (hoff : off + W < n2) (heL : e ≤ L) (hL : L ≤ 1500) : ∀ (l : List Op) (h a st n m : Nat) (σ ρ : Zs), hg W h l 1 → Cg P σ a l → Rg g ρ st l → a + l.length = e → zI σ 326 P 0 0 = nI L → st + l.length < 3000 → h + l.length ≤ 60 → RowR p3 s3 σ c2 p2 s2 off W ρ → zR ρ 898 0 0 0 = (g, 0) → (∀ j, j < h → zJ σ 1351 P 0 j = zJ ρ 1956 0 0 j) → l.length < n → l.length < m → Wp2 (fX5_reckon_6 P x1 (nI e) p3 s3 n (nI h) (nI a) σ) (fX14_worth_6 y1 c2 p2 s2 n2 (nI off) m (nI h) (nI st) ρ) (fun v σ' w ρ' => v = w ∧ (∃ f, σ' = jJ σ 1351 P 0 f) ∧ ∃ f, ρ' = jJ ρ 1956 0 0 f) := by
  intro l
  induction l with
  | nil =>
    intro h a st n m σ ρ h1 h2 h3 h4 h5 h6 h7 h8 h9 h10 h11 h12
    have e1 : h = 1 := h1
    have e2 : a = e := by simpa using h4
    subst e1 e2
    obtain ⟨n, rfl⟩ : ∃ k, n = k + 1 := ⟨n - 1, by simp at h11; omega⟩
    obtain ⟨m, rfl⟩ : ∃ k, m = k + 1 := ⟨m - 1, by simp at h12; omega⟩
    have h3' : zI ρ 1810 g 0 st = 50 := by have := h3.2; simpa using this
    rw [k_end h5 (by omega), v_end h9 (by simp at h6; omega) h3']
    exact ⟨h10 0 (by omega), ⟨_, (jJ_self _ _ _ _).symm⟩, ⟨_, (jJ_self _ _ _ _).symm⟩⟩
  | cons o l ih =>
    intro h a st n m σ ρ h1 h2 h3 h4 h5 h6 h7 h8 h9 h10 h11 h12
    obtain ⟨c, v⟩ := o
    rw [List.length_cons] at h4 h6 h7 h11 h12
    obtain ⟨n, rfl⟩ : ∃ k, n = k + 1 := ⟨n - 1, by omega⟩
    obtain ⟨m, rfl⟩ : ∃ k, m = k + 1 := ⟨m - 1, by omega⟩
    obtain ⟨hd1, hd2⟩ := h2.hd
    obtain ⟨hr1, hr2⟩ := h3.hd
    have b1 : ¬ a < 0 := by omega
    have b2 : ¬ e ≤ a := by omega
    have b3 : ¬ L ≤ a := by omega
    have b4 : a < 1500 := by omega
    have b5 : e < 2147483648 := by omega
    rcases h1 with ⟨q, h1⟩ | ⟨q, q2, h1⟩ | ⟨⟨b, q⟩, q2, h1⟩
    · have fin : ∀ x : Int64, fX5_reckon_6 P x1 (nI e) p3 s3 (n + 1) (nI h) (nI a) σ = fX5_reckon_6 P x1 (nI e) p3 s3 n (nI (h + 1)) (nI (a + 1)) (sJ σ 1351 P 0 h x) → fX14_worth_6 y1 c2 p2 s2 n2 (nI off) (m + 1) (nI h) (nI st) ρ = fX14_worth_6 y1 c2 p2 s2 n2 (nI off) m (nI (h + 1)) (nI (st + 1)) (sJ ρ 1956 0 0 h x) → Wp2 (fX5_reckon_6 P x1 (nI e) p3 s3 (n + 1) (nI h) (nI a) σ) (fX14_worth_6 y1 c2 p2 s2 n2 (nI off) (m + 1) (nI h) (nI st) ρ) (fun v σ' w ρ' => v = w ∧ (∃ f, σ' = jJ σ 1351 P 0 f) ∧ ∃ f, ρ' = jJ ρ 1956 0 0 f) := by
        intro x e1 e2
        rw [e1, e2]
        refine w2_m (ih (h + 1) (a + 1) (st + 1) n m _ _ h1 (h2.tl.up P h x) (h3.tl.up h x) (by omega) h5 (by omega) (by omega) (h8.up hc2 P h h x x) h9 (stk_up h10 _ _ (Nat.le_refl _) (fun j hj hne => by omega) x) (by omega) (by omega)) ?_
        rintro v σ' w ρ' ⟨r1, ⟨f1, r2⟩, ⟨f2, r3⟩⟩
        exact ⟨r1, ⟨f1, by rw [r2, jJ_sJ]⟩, ⟨f2, by rw [r3, jJ_sJ]⟩⟩
      obtain ⟨⟨t, t1, t2, t3⟩, t4⟩ := h8
      rcases q with rfl | rfl | ⟨rfl, q, hq, rfl⟩
      · have hv : zJ ρ 1811 g 0 st = v := by
          rcases hr2 with q | q | q
          · exact absurd (show (3 : Int32) = 155 from q) (by decide)
          · exact q
          · exact absurd (Or.inr rfl) q
        refine fin v ?_ ?_
        · rw [k_num b1 b2 b3 b4 b5 hL h5 hd1 (by omega) (by omega), hd2]
        · rw [v_num h9 (by omega) hr1 (by omega), hv]
      · refine fin (lN t) ?_ ?_
        · rw [k_tim b1 b2 b3 b4 b5 hL h5 hd1 (by omega) (by omega) t2 t1]
        · rw [v_tim h9 (by omega) hr1 (by omega) (by omega) hn2, t3]
      · have hv : zJ ρ 1811 g 0 st = lN q := by
          rcases hr2 with q | q | q
          · exact absurd (show (2 : Int32) = 155 from q) (by decide)
          · exact q
          · exact absurd (Or.inl rfl) q
        refine fin (zJ σ 1410 p3 s3 q) ?_ ?_
        · rw [k_col b1 b2 b3 b4 b5 hL h5 hd1 hd2 (by omega) (by omega) (by omega) (by omega)]
        · rw [v_col h9 (by omega) hr1 hv (by omega) (by omega) hn2, t4 q hq]
    · have fin : ∀ x : Int64, fX5_reckon_6 P x1 (nI e) p3 s3 (n + 1) (nI h) (nI a) σ = fX5_reckon_6 P x1 (nI e) p3 s3 n (nI h) (nI (a + 1)) (sJ σ 1351 P 0 (h - 1) x) → fX14_worth_6 y1 c2 p2 s2 n2 (nI off) (m + 1) (nI h) (nI st) ρ = fX14_worth_6 y1 c2 p2 s2 n2 (nI off) m (nI h) (nI (st + 1)) (sJ ρ 1956 0 0 (h - 1) x) → Wp2 (fX5_reckon_6 P x1 (nI e) p3 s3 (n + 1) (nI h) (nI a) σ) (fX14_worth_6 y1 c2 p2 s2 n2 (nI off) (m + 1) (nI h) (nI st) ρ) (fun v σ' w ρ' => v = w ∧ (∃ f, σ' = jJ σ 1351 P 0 f) ∧ ∃ f, ρ' = jJ ρ 1956 0 0 f) := by
        intro x e1 e2
        rw [e1, e2]
        refine w2_m (ih h (a + 1) (st + 1) n m _ _ h1 (h2.tl.up P (h - 1) x) (h3.tl.up (h - 1) x) (by omega) h5 (by omega) (by omega) (h8.up hc2 P (h - 1) (h - 1) x x) h9 (stk_up h10 _ _ (Nat.le_succ _) (fun j hj hne => hj) x) (by omega) (by omega)) ?_
        rintro v σ' w ρ' ⟨r1, ⟨f1, r2⟩, ⟨f2, r3⟩⟩
        exact ⟨r1, ⟨f1, by rw [r2, jJ_sJ]⟩, ⟨f2, by rw [r3, jJ_sJ]⟩⟩
      have hx := h10 (h - 1) (by omega)
      rcases q with rfl | rfl | rfl
      · refine fin (if lg_cmp (zJ σ 1351 P 0 (h - 1)) 0 = 0 then 1 else 0) ?_ ?_
        · refine k_un b1 b2 b3 b4 b5 hL h5 (Or.inl rfl) hd1 q2 (by omega) (by omega) ?_
          rw [fX5_unary, if_pos rfl]
          split <;> rfl
        · rw [hx]; exact v_not h9 (by omega) hr1 q2 (by omega)
      · refine fin (-(zJ σ 1351 P 0 (h - 1))) ?_ ?_
        · refine k_un b1 b2 b3 b4 b5 hL h5 (Or.inr (Or.inl rfl)) hd1 q2 (by omega) (by omega) ?_
          simp +decide only [fX5_unary, ↓reduceIte]
        · rw [hx]; exact v_neg h9 (by omega) hr1 q2 (by omega)
      · refine fin (if 0 ≤ lg_cmp (zJ σ 1351 P 0 (h - 1)) 0 then zJ σ 1351 P 0 (h - 1) else -(zJ σ 1351 P 0 (h - 1))) ?_ ?_
        · refine k_un b1 b2 b3 b4 b5 hL h5 (Or.inr (Or.inr rfl)) hd1 q2 (by omega) (by omega) ?_
          simp +decide only [fX5_unary, ↓reduceIte]
          split <;> rfl
        · rw [hx]; exact v_abs h9 (by omega) hr1 q2 (by omega)
    · obtain ⟨x, u1, u2⟩ := r_two q (zJ σ 1351 P 0 (h - 1 - 1)) (zJ σ 1351 P 0 (h - 1)) σ ρ
      have hb : opc c = b := by
        rcases opF_c q with ⟨rfl, rfl⟩ | ⟨rfl, rfl⟩ | ⟨rfl, rfl⟩ | ⟨rfl, rfl⟩ | ⟨rfl, rfl⟩ | ⟨rfl, rfl⟩ | ⟨rfl, rfl⟩ | ⟨rfl, rfl⟩ | ⟨rfl, rfl⟩ | ⟨rfl, rfl⟩ | ⟨rfl, rfl⟩ | ⟨rfl, rfl⟩ | ⟨rfl, rfl⟩ | ⟨rfl, rfl⟩ | ⟨rfl, rfl⟩ <;> decide
      rw [k_bi b1 b2 b3 b4 b5 hL h5 q hd1 q2 (by omega) (by omega) (by omega) u1]
      rw [h10 (h - 1 - 1) (by omega), h10 (h - 1) (by omega)] at u2
      rw [v_bi h9 (by omega) q (hr1.trans hb) q2 (by omega) (by omega) u2]
      refine w2_m (ih (h - 1) (a + 1) (st + 1) n m _ _ h1 (h2.tl.up P (h - 1 - 1) x) (h3.tl.up (h - 1 - 1) x) (by omega) h5 (by omega) (by omega) (h8.up hc2 P (h - 1 - 1) (h - 1 - 1) x x) h9 (stk_up h10 _ _ (by omega) (fun j hj hne => by omega) x) (by omega) (by omega)) ?_
      rintro v σ' w ρ' ⟨r1, ⟨f1, r2⟩, ⟨f2, r3⟩⟩
      exact ⟨r1, ⟨f1, by rw [r2, jJ_sJ]⟩, ⟨f2, by rw [r3, jJ_sJ]⟩⟩
theorem r_worth {P g p3 s3 c2 p2 s2 n2 off W L a st : Nat} {l : List Op} {σ ρ : Zs} (hW : W ≤ 6) (hc2 : c2 ≠ 1956) (hn2 : n2 < 2147483648) (hoff : off + W < n2) (hL : L ≤ 1500) (ho : okO W l) (hC : Cg P σ a l) (hR : Rg g ρ st l) (haL : a + l.length ≤ L) (hl : zI σ 326 P 0 0 = nI L) (hst : st + l.length < 3000) (hrow : RowR p3 s3 σ c2 p2 s2 off W ρ) (hg9 : zR ρ 898 0 0 0 = (g, 0)) : Wp2 (fX5_reckon P (nI a) (nI (a + l.length)) p3 s3 σ) (fX14_worth (nI st) c2 p2 s2 n2 (nI off) ρ) (fun v σ' w ρ' => v = w ∧ (∃ f, σ' = jJ σ 1351 P 0 f) ∧ ∃ f, ρ' = jJ ρ 1956 0 0 f) := by
  unfold fX5_reckon fX14_worth
  have hf : l.length < FU := by have := ho.1; unfold FU; omega
  exact r_worth_l hW hc2 hn2 hoff haL hL l 0 a st FU FU σ ρ ho.2 hC hR rfl hl hst (by have := ho.1; omega) hrow hg9 (fun j hj => absurd hj (Nat.not_lt_zero j)) hf hf
