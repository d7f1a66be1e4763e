/-! STEPS: first -/
theorem upx_p {X : Nat → Nat → Nat} {k i v : Nat} : upx X k i v k i = v := if_pos ⟨rfl, rfl⟩
theorem upx_n {X : Nat → Nat → Nat} {k i v k' i' : Nat} (h : ¬ (k' = k ∧ i' = i)) : upx X k i v k' i' = X k' i' := if_neg h
def near (a b n : Nat) : Prop := a ≤ b + n ∧ b ≤ a + n
theorem near_s {a b n : Nat} : near a b n ↔ near b a n := by unfold near; omega
theorem abs_C {a b : Nat} (ha : a < 1073741824) (hb : b < 1073741824) : p_abs (nI a - nI b) = nI (if b ≤ a then a - b else b - a) := by
  have e := pk_sub_toInt (a := a) (b := b) (by omega) (by omega)
  unfold p_abs
  have e0 : (0 : Int32).toInt = 0 := rfl
  by_cases q : b ≤ a
  · rw [if_pos q, if_pos, n_sub q]
    rw [Int32.le_iff_toInt_le, e, e0]; omega
  · rw [if_neg q, if_neg, Int32.zero_sub, Int32.neg_sub, n_sub (by omega)]
    rw [Int32.le_iff_toInt_le, e, e0]; omega
theorem abs_L {a b : Nat} (ha : a < 1073741824) (hb : b < 1073741824) : p_labs (lN a - lN b) = lN (if b ≤ a then a - b else b - a) := by
  have e : (lN a - lN b).toInt = (a : Int) - b := by
    rw [Int64.toInt_sub, lN_toInt (by omega), lN_toInt (by omega)]
    exact Int.bmod_eq_of_le (by omega) (by omega)
  unfold p_labs
  have e0 : (0 : Int64).toInt = 0 := rfl
  by_cases q : b < a
  · rw [if_pos (by omega : b ≤ a), if_pos, lN_sub (by omega)]
    rw [Int64.lt_iff_toInt_lt, e, e0]; omega
  · rw [if_neg, Int64.neg_sub]
    · by_cases q2 : b ≤ a
      · rw [if_pos q2, lN_sub (by omega)]
        congr 1
        omega
      · rw [if_neg q2, lN_sub (by omega)]
    · rw [Int64.lt_iff_toInt_lt, e, e0]; omega
theorem near_C {a b n : Nat} (ha : a < 1073741824) (hb : b < 1073741824) (hn : n < 1073741824) : (nI n < p_abs (nI a - nI b)) = ¬ near a b n := by
  rw [abs_C ha hb]
  refine propext ?_
  unfold near
  split
  · rw [n_lt (by omega) (by omega)]; omega
  · rw [n_lt (by omega) (by omega)]; omega
theorem near_R {a b n : Nat} (ha : a < 1073741824) (hb : b < 1073741824) (hn : n < 1073741824) : (0 < lg_cmp (p_labs (lN a - lN b)) ((nI n).toInt64)) = ¬ near a b n := by
  rw [abs_L ha hb, n_i64 (by omega)]
  refine propext ?_
  rw [l_cmpgt]
  unfold near
  split
  · rw [lN_lt (by omega) (by omega)]; omega
  · rw [lN_lt (by omega) (by omega)]; omega
theorem near_Q {a b n : Nat} (ha : a < 1073741824) (hb : b < 1073741824) (hn : n < 1073741824) : (lg_cmp (p_labs (lN a - lN b)) ((nI n).toInt64) ≤ 0) = near a b n := by
  have := near_R ha hb hn
  refine propext ?_
  rw [← i_nlt, this, Classical.not_not]
section FI
variable {P g : Nat} {d : Pd} {σ0 ρ0 : Zs} {τ : Prop} {X : Nat → Nat → Nat} {σ ρ : Zs} {s t off a : Nat} {pa sa : Nat} {x4 : Int32}
/-- the class's loop: is there a given row before r with the same key, near? -/
theorem c_first_l {r y n0 w N t : Nat} {key : Int64} {T : Nat → Nat} (hr : r < N) (hN : N ≤ 200) (hw : w ≤ 6) (hy : y < w) (hn0 : n0 < 1073741824) (ht : t < 1073741824) (h1 : zI σ 512 P a 0 = nI N) (h2 : zI σ 513 P a 0 = nI w) (h3 : zI σ 453 P s 0 = nI y) (h4 : zI σ 455 P s 0 = nI n0) (h5 : zI σ 384 0 0 0 = nI t) (h6 : zJ σ 1410 0 0 y = key) (h7 : ∀ i, i < r → T i < 1073741824 ∧ zI σ 1538 P a i = nI (T i)) (h8 : ∀ i, i < r → zI σ 1487 P s i = nI 0 ∨ zI σ 1487 P s i = nI 1) : ∀ (k i n b : Nat), i + k = r → k < n → b ≤ 1 →
    ∃ v, v ≤ 1 ∧ (v = 1 ↔ b = 1 ∧ ∀ j, i ≤ j → j < r → ¬ (zI σ 1487 P s j = nI 1 ∧ zJ σ 1539 P a (j * 6 + y) = key ∧ near (T j) t n0)) ∧ fX1_isFirst_6 P s P a (nI r) n (nI b) (nI i) σ = fX1_isFirst_90 P s P a (nI r) (nI v) σ := by
  intro k
  induction k with
  | zero =>
    intro i n b e1 e2 e3
    obtain ⟨n, rfl⟩ : ∃ j, n = j + 1 := ⟨n - 1, by omega⟩
    have e : i = r := by omega
    subst e
    refine ⟨b, e3, ⟨fun q => ⟨q, fun j q1 q2 => by omega⟩, fun q => q.1⟩, ?_⟩
    rw [fX1_isFirst_6]
    rw [if_pos (Int32.le_refl _)]
  | succ k ih =>
    intro i n b e1 e2 e3
    obtain ⟨n, rfl⟩ : ∃ j, n = j + 1 := ⟨n - 1, by omega⟩
    have b1 : ¬ r ≤ i := by omega
    have b2 : ¬ 200 ≤ i := by omega
    have b3 : i < 200 := by omega
    have hT := h7 i (by omega)
    have hnum := tab_num (P := P) (s := a) (i := i) (c := y) h1 h2 hN (by omega) hw hy
    have htim := tab_time (P := P) (s := a) (i := i) h1 hN (by omega)
    have hnu2 : fX6_numberAt 0 0 (nI y) σ = some (zJ σ 1410 0 0 y, σ) := row_num (by omega)
    rw [fX1_isFirst_6]
    simp (disch := omega) only [i_200, i_0, i_1, n_le, n_gi, n_cl, n_add, b1, b2, b3, ↓reduceIte]
    have step : ∀ b2 : Nat, b2 ≤ 1 → (b2 = 1 ↔ b = 1 ∧ ¬ (zI σ 1487 P s i = nI 1 ∧ zJ σ 1539 P a (i * 6 + y) = key ∧ near (T i) t n0)) → ∃ v, v ≤ 1 ∧ (v = 1 ↔ b = 1 ∧ ∀ j, i ≤ j → j < r → ¬ (zI σ 1487 P s j = nI 1 ∧ zJ σ 1539 P a (j * 6 + y) = key ∧ near (T j) t n0)) ∧ fX1_isFirst_6 P s P a (nI r) n (nI b2) (nI (i + 1)) σ = fX1_isFirst_90 P s P a (nI r) (nI v) σ := by
      intro b2 hb2 hb3
      obtain ⟨v, v1, v2, v3⟩ := ih (i + 1) n b2 (by omega) (by omega) hb2
      refine ⟨v, v1, v2.trans ⟨fun q => ?_, fun q => ?_⟩, v3⟩
      · obtain ⟨q1, q2⟩ := hb3.mp q.1
        refine ⟨q1, fun j j1 j2 => ?_⟩
        by_cases e : j = i
        · rw [e]; exact q2
        · exact q.2 j (by omega) j2
      · exact ⟨hb3.mpr ⟨q.1, q.2 i (Nat.le_refl _) (by omega)⟩, fun j j1 j2 => q.2 j (by omega) j2⟩
    rcases h8 i (by omega) with q | q
    · simp only [q, ↓reduceIte]
      refine step b e3 ⟨fun z => ⟨z, fun z2 => ?_⟩, fun z => z.1⟩
      have := z2.1
      rw [q] at this
      exact absurd this (by decide)
    · have q0 : ¬ (nI 1 : Int32) = nI 0 := by decide
      simp only [q, q0, h3, ↓reduceIte]
      rw [bq_e hnum]
      simp only [h3]
      rw [bq_e hnu2, h6]
      by_cases c : zJ σ 1539 P a (i * 6 + y) = key
      · have c0 : lg_cmp (zJ σ 1539 P a (i * 6 + y)) key = nI 0 := l_cmp0.mpr c
        simp only [c0, ↓reduceIte]
        rw [bq_e htim, hT.2, h5, h4]
        have nc := near_C hT.1 ht hn0
        by_cases c2 : near (T i) t n0
        · have : ¬ (nI n0 < p_abs (nI (T i) - nI t)) := by rw [nc]; exact fun z => z c2
          simp only [this, ↓reduceIte]
          refine step 0 (by omega) ⟨fun z => by omega, fun z => absurd ⟨q, c, c2⟩ z.2⟩
        · have : (nI n0 < p_abs (nI (T i) - nI t)) := by rw [nc]; exact c2
          simp only [this, ↓reduceIte]
          refine step b e3 ⟨fun z => ⟨z, fun z2 => c2 z2.2.2⟩, fun z => z.1⟩
      · have c0 : ¬ lg_cmp (zJ σ 1539 P a (i * 6 + y)) key = nI 0 := fun z => c (l_cmp0.mp z)
        simp only [c0, ↓reduceIte]
        refine step b e3 ⟨fun z => ⟨z, fun z2 => c z2.2.1⟩, fun z => z.1⟩
/-- the law's loop over what was given -/
theorem r_first_l {n0 t G : Nat} {key : Int64} {T : Nat → Nat} (hs : s < 12) (hoff : off + 7 ≤ 16800) (hG : G < 200) (hn0 : n0 < 1073741824) (ht : t < 1073741824) (hz : zR ρ 898 0 0 0 = (g, 0)) (h1 : zI ρ 1946 0 0 s = nI G) (h2 : zI ρ 1799 g 0 s = nI n0) (h5 : zJ ρ 1940 0 0 off = lN t) (h7 : ∀ i, i < G → T i < 1073741824 ∧ zJ ρ 1945 0 0 (2 * (200 * s + i) + 1) = lN (T i)) : ∀ (k i n : Nat), i + k = G → k < n →
    ((∃ j, i ≤ j ∧ j < G ∧ zJ ρ 1945 0 0 (2 * (200 * s + j)) = key ∧ near (T j) t n0) ∧ fX14_firstOnly_22 (nI s) (nI off) n key (nI i) ρ = some ((), ρ)) ∨
    ((∀ j, i ≤ j → j < G → ¬ (zJ ρ 1945 0 0 (2 * (200 * s + j)) = key ∧ near (T j) t n0)) ∧ fX14_firstOnly_22 (nI s) (nI off) n key (nI i) ρ = bq (fX14_offer (nI s) (sI (sJ (sJ ρ 1945 0 0 (2 * (200 * s + G)) key) 1945 0 0 (2 * (200 * s + G) + 1) (lN t)) 1946 0 0 s (nI (G + 1)))) fun _ z => some ((), z)) := by
  intro k
  induction k with
  | zero =>
    intro i n e1 e2
    obtain ⟨n, rfl⟩ : ∃ j, n = j + 1 := ⟨n - 1, by omega⟩
    have e : i = G := by omega
    subst e
    refine Or.inr ⟨fun j j1 j2 => by omega, ?_⟩
    rw [fX14_firstOnly_22]
    have b1 : i ≤ i := Nat.le_refl _
    have b2 : 2 * (200 * s + i) < 4800 := by omega
    have b3 : 2 * (200 * s + i) + 1 < 4800 := by omega
    have b4 : off < 16800 := by omega
    simp (disch := omega) only [i_200, i_0, i_1, i_2, n_le, n_gi, n_cl, n_add, n_mul, zI_sJ, h1, h5, hs, b1, b2, b3, b4, ↓reduceIte, lt_k]
    have e0 : zJ (sJ ρ 1945 0 0 (2 * (200 * s + i)) key) 1940 0 0 off = lN t := h5
    rw [e0]
  | succ k ih =>
    intro i n e1 e2
    obtain ⟨n, rfl⟩ : ∃ j, n = j + 1 := ⟨n - 1, by omega⟩
    have b1 : ¬ G ≤ i := by omega
    have b2 : 2 * (200 * s + i) < 4800 := by omega
    have b3 : 2 * (200 * s + i) + 1 < 4800 := by omega
    have b4 : off < 16800 := by omega
    have hT := h7 i (by omega)
    have nc := near_R hT.1 ht hn0
    rw [fX14_firstOnly_22]
    simp (disch := omega) only [i_200, i_0, i_1, i_2, n_le, n_gi, n_cl, n_add, n_mul, h1, h2, h5, hz, hT.2, hs, b1, b2, b3, b4, ↓reduceIte]
    have step : ¬ (zJ ρ 1945 0 0 (2 * (200 * s + i)) = key ∧ near (T i) t n0) → ((∃ j, i ≤ j ∧ j < G ∧ zJ ρ 1945 0 0 (2 * (200 * s + j)) = key ∧ near (T j) t n0) ∧ fX14_firstOnly_22 (nI s) (nI off) n key (nI (i + 1)) ρ = some ((), ρ)) ∨
    ((∀ j, i ≤ j → j < G → ¬ (zJ ρ 1945 0 0 (2 * (200 * s + j)) = key ∧ near (T j) t n0)) ∧ fX14_firstOnly_22 (nI s) (nI off) n key (nI (i + 1)) ρ = bq (fX14_offer (nI s) (sI (sJ (sJ ρ 1945 0 0 (2 * (200 * s + G)) key) 1945 0 0 (2 * (200 * s + G) + 1) (lN t)) 1946 0 0 s (nI (G + 1)))) fun _ z => some ((), z)) := by
      intro hno
      rcases ih (i + 1) n (by omega) (by omega) with ⟨⟨j, j1, j2, j3⟩, u⟩ | ⟨u1, u⟩
      · exact Or.inl ⟨⟨j, by omega, j2, j3⟩, u⟩
      · refine Or.inr ⟨fun j j1 j2 => ?_, u⟩
        by_cases e : j = i
        · rw [e]; exact hno
        · exact u1 j (by omega) j2
    by_cases c : zJ ρ 1945 0 0 (2 * (200 * s + i)) = key
    · have c0 : lg_cmp (zJ ρ 1945 0 0 (2 * (200 * s + i))) key = nI 0 := l_cmp0.mpr c
      simp only [c0, ↓reduceIte]
      by_cases c2 : near (T i) t n0
      · have : ¬ (nI 0 < lg_cmp (p_labs (lN (T i) - lN t)) ((nI n0).toInt64)) := by
          have z0 : (nI 0 : Int32) = 0 := rfl
          rw [z0, nc]; exact fun z => z c2
        simp only [this, ↓reduceIte]
        exact Or.inl ⟨⟨i, Nat.le_refl _, by omega, c, c2⟩, trivial⟩
      · have : nI 0 < lg_cmp (p_labs (lN (T i) - lN t)) ((nI n0).toInt64) := by
          have z0 : (nI 0 : Int32) = 0 := rfl
          rw [z0, nc]; exact c2
        simp only [this, ↓reduceIte]
        exact step (fun z => c2 z.2)
    · have c0 : ¬ lg_cmp (zJ ρ 1945 0 0 (2 * (200 * s + i))) key = nI 0 := fun z => c (l_cmp0.mp z)
      simp only [c0, ↓reduceIte]
      exact step (fun z => c z.1)
end FI
def EG1 (P : Nat) (d : Pd) (X : Nat → Nat → Nat) (σ ρ : Zs) (s : Nat) : Prop := zI ρ 1946 0 0 s = nI (X 6 s) ∧ X 6 s ≤ X 11 s ∧ X 11 s ≤ 200 ∧ (dK d s = 6 → X 11 s ≤ X 0 (dA d s)
  ∧ (∀ j, j < X 6 s → ∃ i, i < X 11 s ∧ zI σ 1487 P s i = nI 1 ∧ zJ ρ 1945 0 0 (2 * (200 * s + j)) = zJ ρ 1940 0 0 ((200 * dA d s + i) * 7 + 1 + dY d s) ∧ zJ ρ 1945 0 0 (2 * (200 * s + j) + 1) = zJ ρ 1940 0 0 ((200 * dA d s + i) * 7))
  ∧ ∀ i, i < X 11 s → (zI σ 1487 P s i = nI 0 ∨ zI σ 1487 P s i = nI 1) ∧ (zI σ 1487 P s i = nI 1 → ∃ j, j < X 6 s ∧ zJ ρ 1945 0 0 (2 * (200 * s + j)) = zJ ρ 1940 0 0 ((200 * dA d s + i) * 7 + 1 + dY d s) ∧ zJ ρ 1945 0 0 (2 * (200 * s + j) + 1) = zJ ρ 1940 0 0 ((200 * dA d s + i) * 7)))
theorem EG1.fr {P : Nat} {d : Pd} {X X' : Nat → Nat → Nat} {σ σ' ρ ρ' : Zs} {s : Nat} (h : EG1 P d X σ ρ s) (e1 : zI ρ' 1946 0 0 s = zI ρ 1946 0 0 s) (e2 : X' 6 s = X 6 s) (e3 : X' 11 s = X 11 s) (e4 : ∀ a, X' 0 a = X 0 a) (e5 : ∀ i, zI σ' 1487 P s i = zI σ 1487 P s i) (e6 : ∀ j, j < 200 → zJ ρ' 1945 0 0 (2 * (200 * s + j)) = zJ ρ 1945 0 0 (2 * (200 * s + j)) ∧ zJ ρ' 1945 0 0 (2 * (200 * s + j) + 1) = zJ ρ 1945 0 0 (2 * (200 * s + j) + 1)) (e7 : ∀ i, zJ ρ' 1940 0 0 i = zJ ρ 1940 0 0 i) : EG1 P d X' σ' ρ' s := by
  obtain ⟨h1, h2, h3, h4⟩ := h
  unfold EG1
  rw [e1, e2, e3, e4]
  refine ⟨h1, h2, h3, fun hk => ?_⟩
  obtain ⟨k1, k2, k3⟩ := h4 hk
  refine ⟨k1, fun j hj => ?_, fun i hi => ?_⟩
  · obtain ⟨i, i1, i2, i3, i4⟩ := k2 j hj
    exact ⟨i, i1, by rw [e5, i2], by rw [(e6 j (by omega)).1, e7, i3], by rw [(e6 j (by omega)).2, e7, i4]⟩
  · obtain ⟨k4, k5⟩ := k3 i hi
    rw [e5]
    refine ⟨k4, fun q => ?_⟩
    obtain ⟨j, j1, j2, j3⟩ := k5 q
    exact ⟨j, j1, by rw [(e6 j (by omega)).1, e7, j2], by rw [(e6 j (by omega)).2, e7, j3]⟩
section FJ
variable {P g : Nat} {d : Pd} {σ0 ρ0 : Zs} {τ : Prop} {X : Nat → Nat → Nat} {σ ρ : Zs} {s t off a r : Nat} {pa sa : Nat} {x4 : Int32}
theorem ER.giv0 (h : ER P d σ0 ρ0 τ X σ ρ) (hs : s < dN d) (hk : dK d s = 6) (hr : X 11 s = r) (hr2 : r < 200) (hr3 : r < X 0 (dA d s)) : ER P d σ0 ρ0 τ (upx X 11 s (r + 1)) (sI σ 1487 P s r (nI 0)) ρ := by
  refine ⟨h.1, h.2.1.I (by simp [wC]), h.2.2.1, h.2.2.2.1, h.2.2.2.2.1, h.2.2.2.2.2.1, h.2.2.2.2.2.2.1, h.2.2.2.2.2.2.2.1, h.2.2.2.2.2.2.2.2.1, fun s' hs' => ?_⟩
  have hG : EG1 P d X σ ρ s' := h.2.2.2.2.2.2.2.2.2 s' hs'
  by_cases e : s' = s
  · subst e
    obtain ⟨h1, h2, h3, h4⟩ := hG
    obtain ⟨k1, k2, k3⟩ := h4 hk
    have x6 : upx X 11 s' (r + 1) 6 s' = X 6 s' := rfl
    have x11 : upx X 11 s' (r + 1) 11 s' = r + 1 := if_pos ⟨rfl, rfl⟩
    have x0 : ∀ a, upx X 11 s' (r + 1) 0 a = X 0 a := fun _ => rfl
    show EG1 _ _ _ _ _ _
    unfold EG1
    rw [x6, x11, x0]
    refine ⟨h1, by omega, by omega, fun _ => ⟨by omega, fun j hj => ?_, fun i hi => ?_⟩⟩
    · obtain ⟨i, i1, i2, i3, i4⟩ := k2 j hj
      refine ⟨i, by omega, ?_, i3, i4⟩
      rw [zI_sI, if_neg (by omega)]; exact i2
    · rw [zI_sI]
      by_cases e : i = r
      · rw [if_pos ⟨rfl, rfl, rfl, e⟩]
        exact ⟨Or.inl rfl, fun q => absurd q (by decide)⟩
      · rw [if_neg (by omega)]
        exact k3 i (by omega)
  · refine EG1.fr hG rfl rfl (if_neg (fun q => e q.2)) (fun _ => rfl) (fun i => ?_) (fun _ _ => ⟨rfl, rfl⟩) (fun _ => rfl)
    rw [zI_sI, if_neg (by omega)]
theorem ER.giv1 {G : Nat} (h : ER P d σ0 ρ0 τ X σ ρ) (hs : s < dN d) (hk : dK d s = 6) (hr : X 11 s = r) (hr2 : r < 200) (hr3 : r < X 0 (dA d s)) (hG : X 6 s = G) : ER P d σ0 ρ0 τ (upx (upx X 11 s (r + 1)) 6 s (G + 1)) (sI σ 1487 P s r (nI 1)) (sI (sJ (sJ ρ 1945 0 0 (2 * (200 * s + G)) (zJ ρ 1940 0 0 ((200 * dA d s + r) * 7 + 1 + dY d s))) 1945 0 0 (2 * (200 * s + G) + 1) (zJ ρ 1940 0 0 ((200 * dA d s + r) * 7))) 1946 0 0 s (nI (G + 1))) := by
  refine ⟨h.1, h.2.1.I (by simp [wC]), (((h.2.2.1.J (by decide)).J (by decide)).I (by decide)), h.2.2.2.1, h.2.2.2.2.1, h.2.2.2.2.2.1, h.2.2.2.2.2.2.1, h.2.2.2.2.2.2.2.1, h.2.2.2.2.2.2.2.2.1, fun s' hs' => ?_⟩
  have hGG : EG1 P d X σ ρ s' := h.2.2.2.2.2.2.2.2.2 s' hs'
  have hGs : EG1 P d X σ ρ s := h.2.2.2.2.2.2.2.2.2 s hs
  have g1 := hGs.2.1
  have g2 := hGs.2.2.1
  by_cases e : s' = s
  · subst e
    obtain ⟨h1, h2, h3, h4⟩ := hGG
    obtain ⟨k1, k2, k3⟩ := h4 hk
    have x6 : upx (upx X 11 s' (r + 1)) 6 s' (G + 1) 6 s' = G + 1 := if_pos ⟨rfl, rfl⟩
    have x11 : upx (upx X 11 s' (r + 1)) 6 s' (G + 1) 11 s' = r + 1 := (upx_n (by omega)).trans upx_p
    have x0 : ∀ a, upx (upx X 11 s' (r + 1)) 6 s' (G + 1) 0 a = X 0 a := fun _ => rfl
    have d40 : ∀ x y v w i, zJ (sI (sJ (sJ ρ 1945 0 0 x y) 1945 0 0 v w) 1946 0 0 s' (nI (G + 1))) 1940 0 0 i = zJ ρ 1940 0 0 i := fun _ _ _ _ _ => rfl
    have old : ∀ y w j, j < G → zJ (sI (sJ (sJ ρ 1945 0 0 (2 * (200 * s' + G)) y) 1945 0 0 (2 * (200 * s' + G) + 1) w) 1946 0 0 s' (nI (G + 1))) 1945 0 0 (2 * (200 * s' + j)) = zJ ρ 1945 0 0 (2 * (200 * s' + j)) ∧ zJ (sI (sJ (sJ ρ 1945 0 0 (2 * (200 * s' + G)) y) 1945 0 0 (2 * (200 * s' + G) + 1) w) 1946 0 0 s' (nI (G + 1))) 1945 0 0 (2 * (200 * s' + j) + 1) = zJ ρ 1945 0 0 (2 * (200 * s' + j) + 1) := by
      intro y w j hj
      rw [zJ_sI, zJ_sJ, if_neg (by omega), zJ_sJ, if_neg (by omega), zJ_sJ, if_neg (by omega), zJ_sJ, if_neg (by omega)]
      exact ⟨rfl, rfl⟩
    have new : ∀ y w, zJ (sI (sJ (sJ ρ 1945 0 0 (2 * (200 * s' + G)) y) 1945 0 0 (2 * (200 * s' + G) + 1) w) 1946 0 0 s' (nI (G + 1))) 1945 0 0 (2 * (200 * s' + G)) = y ∧ zJ (sI (sJ (sJ ρ 1945 0 0 (2 * (200 * s' + G)) y) 1945 0 0 (2 * (200 * s' + G) + 1) w) 1946 0 0 s' (nI (G + 1))) 1945 0 0 (2 * (200 * s' + G) + 1) = w := by
      intro y w
      rw [zJ_sI, zJ_sJ, if_neg (by omega), zJ_sJ, if_pos ⟨rfl, rfl, rfl, rfl⟩, zJ_sJ, if_pos ⟨rfl, rfl, rfl, rfl⟩]
      exact ⟨rfl, rfl⟩
    show EG1 _ _ _ _ _ _
    unfold EG1
    rw [x6, x11, x0]
    refine ⟨?_, by omega, by omega, fun _ => ⟨by omega, fun j hj => ?_, fun i hi => ?_⟩⟩
    · rw [zI_sI, if_pos ⟨rfl, rfl, rfl, rfl⟩]
    · by_cases e : j = G
      · subst e
        refine ⟨r, by omega, ?_, ?_, ?_⟩
        · rw [zI_sI, if_pos ⟨rfl, rfl, rfl, rfl⟩]
        · rw [d40, (new _ _).1]
        · rw [d40, (new _ _).2]
      · obtain ⟨i, i1, i2, i3, i4⟩ := k2 j (by omega)
        refine ⟨i, by omega, ?_, ?_, ?_⟩
        · rw [zI_sI, if_neg (by omega)]; exact i2
        · rw [d40, (old _ _ j (by omega)).1]; exact i3
        · rw [d40, (old _ _ j (by omega)).2]; exact i4
    · rw [zI_sI]
      by_cases e : i = r
      · rw [if_pos ⟨rfl, rfl, rfl, e⟩]
        refine ⟨Or.inr rfl, fun _ => ⟨G, by omega, ?_, ?_⟩⟩
        · rw [d40, (new _ _).1, e]
        · rw [d40, (new _ _).2, e]
      · rw [if_neg (by omega)]
        obtain ⟨k4, k5⟩ := k3 i (by omega)
        refine ⟨k4, fun q => ?_⟩
        obtain ⟨j, j1, j2, j3⟩ := k5 q
        refine ⟨j, by omega, ?_, ?_⟩
        · rw [d40, (old _ _ j (by omega)).1]; exact j2
        · rw [d40, (old _ _ j (by omega)).2]; exact j3
  · have g3 := hGs.2.1
    refine EG1.fr hGG ?_ ((upx_n (by omega)).trans (upx_n (by omega))) ((upx_n (by omega)).trans (upx_n (by omega))) (fun _ => rfl) (fun i => ?_) (fun j hj => ?_) (fun _ => rfl)
    · rw [zI_sI, if_neg (by omega)]; rfl
    · rw [zI_sI, if_neg (by omega)]
    · rw [zJ_sI, zJ_sJ, if_neg (by omega), zJ_sJ, if_neg (by omega), zJ_sJ, if_neg (by omega), zJ_sJ, if_neg (by omega)]
      exact ⟨rfl, rfl⟩
theorem c_first (hB : EB P g d σ0 ρ0) (h : ER P d σ0 ρ0 τ X σ ρ) (hs : s < dN d) (hk : dK d s = 6) (hr : X 11 s = r) (hr2 : r < X 0 (dA d s)) (hin : InR d σ ρ (dA d s) t ((200 * dA d s + r) * 7)) : ∃ v σ1, fX1_comesOut (nI s) P s P (dA d s) (nI r) σ = some (v, σ1) ∧ OutW P d σ0 ρ0 τ X s v σ1 (fX14_passOn (nI s) (nI ((200 * dA d s + r) * 7)) ρ) := by
  obtain ⟨hW, hPC, hPR, hz, hz3, hP⟩ := hB.fr h
  have hC := hPC.2.2.choose_spec.2.2.1 s hs
  have hR := hPR.2.2.1 s hs
  have hN := hW.n
  have hA := hW.a hs (by omega)
  have hAN : dA d s < dN d := by omega
  have hA6 := hW.w6 hAN
  obtain ⟨_, _, _, hS1000, _, _, _, _, _, _, _, _, hop, _⟩ := hW.2.2.1 s hs
  obtain ⟨o1, o2⟩ := hop hk
  obtain ⟨σ2, e1, f, hσ2, hf⟩ := cp_row hin.1 hin.2.1
  have h449 := hC.2.1
  have h1794 := hR.2.1
  rw [hk] at h449 h1794
  have h453 : zI σ 453 P s 0 = nI (dY d s) := hC.2.2.2.2.2.2.1 (by omega)
  have h455 : zI σ 455 P s 0 = nI (dS d s) := hC.2.2.2.2.2.2.2.2.1 (by omega)
  have h1801 : zI ρ 1801 g 0 s = nI (dY d s) := hR.2.2.2.2.2.2.1 (by omega)
  have h1799 : zI ρ 1799 g 0 s = nI (dS d s) := hR.2.2.2.2.2.2.2.2.1 (by omega)
  obtain ⟨T200, h512, h513, _, hrows⟩ := h.2.2.2.1 (dA d s) hAN
  have hGs : EG1 P d X σ ρ s := h.2.2.2.2.2.2.2.2.2 s hs
  obtain ⟨g1, g2, g3, g4⟩ := hGs
  obtain ⟨g4, g5, g6⟩ := g4 hk
  have hTB : TB (dA d s) < 2000000 := by unfold TB; omega
  have ht := hin.2.2.1
  have hT : ∀ i, i < X 0 (dA d s) → ∃ ti, ti < 1073741824 ∧ (zI σ 1538 P (dA d s) i).toNatClampNeg = ti ∧ zI σ 1538 P (dA d s) i = nI ti ∧ zJ ρ 1940 0 0 ((200 * dA d s + i) * 7) = lN ti := by
    intro i hi
    obtain ⟨⟨ti, q1, q2, q3⟩, _⟩ := hrows i hi
    exact ⟨ti, by omega, by rw [q2, n_cl (by omega)], q2, q3⟩
  have hkey : ∀ i, i < X 0 (dA d s) → zJ σ 1539 P (dA d s) (i * 6 + dY d s) = zJ ρ 1940 0 0 ((200 * dA d s + i) * 7 + 1 + dY d s) := fun i hi => (hrows i hi).2 _ o1
  have key : zJ σ 1410 0 0 (dY d s) = zJ ρ 1940 0 0 ((200 * dA d s + r) * 7 + 1 + dY d s) := hin.2.2.2.2.2 _ o1
  have hLT : ∀ n : Nat, n < 1073741824 → (lN n).toInt.toNat = n := fun n hn => by rw [lN_toInt (by omega)]; rfl
  have hE : ER P d σ0 ρ0 τ X σ2 (loadR ρ 1940 ((200 * dA d s + r) * 7)) := by rw [hσ2]; exact (h.r2).k57
  have hRW : RW 2 0 t (dW d s) σ2 (loadR ρ 1940 ((200 * dA d s + r) * 7)) := by
    have := RW.cp (f := f) (W := dW d (dA d s)) hA6 hf (hin.rw hW hAN)
    rw [hσ2, o2]; exact this
  have ff : r < FU := by unfold FU; omega
  obtain ⟨v, v1, v2, v3⟩ := c_first_l (P := P) (s := s) (a := dA d s) (σ := σ2) (r := r) (y := dY d s) (n0 := dS d s) (w := dW d (dA d s)) (N := X 0 (dA d s)) (t := t) (key := zJ ρ 1940 0 0 ((200 * dA d s + r) * 7 + 1 + dY d s)) (T := fun i => (zI σ 1538 P (dA d s) i).toNatClampNeg) hr2 T200 hA6 o1 (by omega) (by omega) (by rw [hσ2]; exact h512) (by rw [hσ2]; exact h513) (by rw [hσ2]; exact h453) (by rw [hσ2]; exact h455) (by rw [hσ2]; exact hin.1) (by rw [hσ2]; exact key) (fun i hi => by
    obtain ⟨ti, q1, q2, q3, q4⟩ := hT i (by omega)
    rw [hσ2]
    exact ⟨by rw [q2]; exact q1, by rw [q2]; exact q3⟩) (fun i hi => by
    rw [hσ2]
    exact (g6 i (by omega)).1) r 0 FU 1 (by omega) ff (by omega)
  have hG200 : X 6 s < 200 := by omega
  have ff2 : X 6 s < FU := by unfold FU; omega
  have hlaw := r_first_l (g := g) (s := s) (off := (200 * dA d s + r) * 7) (ρ := loadR ρ 1940 ((200 * dA d s + r) * 7)) (n0 := dS d s) (t := t) (G := X 6 s) (key := zJ ρ 1940 0 0 ((200 * dA d s + r) * 7 + 1 + dY d s)) (T := fun j => (zJ ρ 1945 0 0 (2 * (200 * s + j) + 1)).toInt.toNat) (by omega) hin.2.2.2.1 hG200 (by omega) (by omega) hz3 g1 h1799 hin.2.2.2.2.1 (fun j hj => by
    obtain ⟨i, i1, i2, i3, i4⟩ := g5 j hj
    obtain ⟨ti, q1, q2, q3, q4⟩ := hT i (by omega)
    have e : zJ ρ 1945 0 0 (2 * (200 * s + j) + 1) = lN ti := i4.trans q4
    have e2 : zJ (loadR ρ 1940 ((200 * dA d s + r) * 7)) 1945 0 0 (2 * (200 * s + j) + 1) = lN ti := e
    show (zJ ρ 1945 0 0 (2 * (200 * s + j) + 1)).toInt.toNat < 1073741824 ∧ _ = lN (zJ ρ 1945 0 0 (2 * (200 * s + j) + 1)).toInt.toNat
    rw [e, e2, hLT _ q1]
    exact ⟨q1, rfl⟩) (X 6 s) 0 FU (by omega) ff2
  have z0 : (0 : Int32) = nI 0 := rfl
  have z1 : (1 : Int32) = nI 1 := rfl
  have hcls : fX1_comesOut (nI s) P s P (dA d s) (nI r) σ = some (nI v, sI σ2 1487 P s r (nI v)) := by
    unfold fX1_comesOut
    have c1 : ¬ (nI 6 : Int32) = 1 := by decide
    have c2 : ¬ (nI 6 : Int32) = 2 := by decide
    have c3 : ¬ (nI 6 : Int32) = 3 := by decide
    have c4 : ¬ (nI 6 : Int32) = 4 := by decide
    have c5 : ¬ (nI 6 : Int32) = 5 := by decide
    have c6 : ((nI 6 : Int32) = 6) = True := eq_true (by decide)
    simp only [h449, c1, c2, c3, c4, c5, c6, ↓reduceIte]
    rw [bq_e e1]
    have hv : nI v = 0 ∨ nI v = 1 := by
      have : v = 0 ∨ v = 1 := by omega
      rcases this with rfl | rfl
      · exact Or.inl rfl
      · exact Or.inr rfl
    have b2 : ¬ 200 ≤ r := by omega
    have b3 : r < 200 := by omega
    have u : fX1_isFirst P s P (dA d s) (nI r) σ2 = some (nI v, sI σ2 1487 P s r (nI v)) := by
      unfold fX1_isFirst
      rw [z0, z1, v3]
      unfold fX1_isFirst_90
      simp (disch := omega) only [i_200, n_le, n_gi, n_cl, b2, b3, hv, ↓reduceIte, lt_k]
    rw [bq_e u, if_pos hv]
  have b0 : s < 12 := by omega
  have b4 : (200 * dA d s + r) * 7 + 1 + dY d s < 16800 := by omega
  have href : fX14_passOn (nI s) (nI ((200 * dA d s + r) * 7)) ρ = bq (fX14_firstOnly_22 (nI s) (nI ((200 * dA d s + r) * 7)) FU (zJ ρ 1940 0 0 ((200 * dA d s + r) * 7 + 1 + dY d s)) (nI 0) (loadR ρ 1940 ((200 * dA d s + r) * 7))) (fun _ z => some ((), z)) := by
    unfold fX14_passOn
    have c1 : ¬ (nI 6 : Int32) = 1 := by decide
    have c2 : ¬ (nI 6 : Int32) = 2 := by decide
    have c3 : ¬ (nI 6 : Int32) = 3 := by decide
    have c4 : ¬ (nI 6 : Int32) = 4 := by decide
    have c6 : ((nI 6 : Int32) = 6) = True := eq_true (by decide)
    rw [if_pos ((n_gi (by omega)).mpr b0), bq_e (load_R hin.2.2.2.1)]
    simp (disch := omega) only [zI_load, zR_load, hz3, h1794, n_gi, n_cl, b0, c1, c2, c3, c4, c6, i_12, ↓reduceIte]
    unfold fX14_firstOnly
    simp (disch := omega) only [zI_load, zR_load, hz3, h1801, n_gi, n_cl, n_add, i_0, i_1, b0, b4, ↓reduceIte]
    rfl
  refine ⟨_, _, hcls, ?_⟩
  rw [href]
  have hiff : (∃ j, 0 ≤ j ∧ j < r ∧ zI σ 1487 P s j = nI 1 ∧ zJ σ 1539 P (dA d s) (j * 6 + dY d s) = zJ ρ 1940 0 0 ((200 * dA d s + r) * 7 + 1 + dY d s) ∧ near (zI σ 1538 P (dA d s) j).toNatClampNeg t (dS d s)) ↔ (∃ j, 0 ≤ j ∧ j < X 6 s ∧ zJ ρ 1945 0 0 (2 * (200 * s + j)) = zJ ρ 1940 0 0 ((200 * dA d s + r) * 7 + 1 + dY d s) ∧ near (zJ ρ 1945 0 0 (2 * (200 * s + j) + 1)).toInt.toNat t (dS d s)) := by
    constructor
    · rintro ⟨i, i0, i1, i2, i3, i4⟩
      obtain ⟨j, j1, j2, j3⟩ := (g6 i (by omega)).2 i2
      obtain ⟨ti, q1, q2, q3, q4⟩ := hT i (by omega)
      rw [hkey i (by omega)] at i3
      refine ⟨j, Nat.zero_le _, j1, j2.trans i3, ?_⟩
      rw [j3, q4, hLT _ q1, ← q2]; exact i4
    · rintro ⟨j, j0, j1, j2, j3⟩
      obtain ⟨i, i1, i2, i3, i4⟩ := g5 j j1
      obtain ⟨ti, q1, q2, q3, q4⟩ := hT i (by omega)
      refine ⟨i, Nat.zero_le _, by omega, i2, ?_, ?_⟩
      · rw [hkey i (by omega), ← i3]; exact j2
      · rw [i4, q4, hLT _ q1] at j3
        rw [q2]; exact j3
  have hXB : ∀ z, XB d s X (upx (upx X 11 s (r + 1)) 6 s z) := fun z => ⟨fun k i e _ _ => by unfold upx; rw [if_neg (fun q => e q.2), if_neg (fun q => e q.2)], fun k q => by unfold upx; rw [if_neg (by omega), if_neg (by omega)], rfl, Nat.le_refl _, Nat.le_succ _, fun _ => by rw [hr]; exact (upx_n (by omega)).trans upx_p, fun k i q _ => by unfold upx; rw [if_neg (by omega), if_neg (by omega)]⟩
  have hself : upx (upx X 11 s (r + 1)) 6 s (X 6 s) = upx X 11 s (r + 1) := by
    funext k i
    unfold upx
    by_cases q : k = 6 ∧ i = s
    · rw [if_pos q, if_neg (by omega), q.1, q.2]
    · rw [if_neg q]
  rcases hlaw with ⟨q, u⟩ | ⟨q, u⟩
  · have hv : v = 0 := by
      rcases Nat.lt_or_ge v 1 with q1 | q1
      · omega
      · obtain ⟨j, j0, j1, j2, j3, j4⟩ := hiff.mpr q
        refine absurd ⟨?_, ?_, j4⟩ ((v2.mp (by omega)).2 j j0 j1)
        · rw [hσ2]; exact j2
        · rw [hσ2]; exact j3
    subst hv
    refine ⟨upx X 11 s (r + 1), hself ▸ hXB (X 6 s), Or.inl ⟨rfl, _, by rw [bq_e u], hE.giv0 hs hk hr (by omega) hr2⟩⟩
  · have hv : v = 1 := v2.mpr ⟨rfl, fun j j0 j1 j2 => by
      rw [hσ2] at j2
      obtain ⟨j', p0, p1, p2, p3⟩ := hiff.mp ⟨j, j0, j1, j2⟩
      exact q j' p0 p1 ⟨p2, p3⟩⟩
    subst hv
    refine ⟨_, hXB (X 6 s + 1), Or.inr ⟨rfl, _, t, ?_, hE.giv1 hs hk hr (by omega) hr2 rfl, ?_, Nat.le_trans ht (TB_le (by omega))⟩⟩
    · rw [u]
      have e1 : zJ (loadR ρ 1940 ((200 * dA d s + r) * 7)) 1940 0 0 ((200 * dA d s + r) * 7) = lN t := hin.2.2.2.2.1
      have e2 : zJ (loadR ρ 1940 ((200 * dA d s + r) * 7)) 1940 0 0 ((200 * dA d s + r) * 7 + 1 + dY d s) = zJ ρ 1940 0 0 ((200 * dA d s + r) * 7 + 1 + dY d s) := rfl
      rw [e1, e2]
      cases fX14_offer (nI s) _ with
      | none => rfl
      | some r => rfl
    · exact hRW
end FJ
