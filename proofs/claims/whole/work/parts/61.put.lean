/-! WINDOWS: looking for one, its totals -/
def tot (p z : Nat) (b v : Int64) : Int64 := if p = 23 then lN z else if z = 1 then v else if p = 22 then b + v else if p = 24 then (if v < b then v else b) else if p = 25 then (if v < b then b else v) else v
section PU
variable {P g : Nat} {d : Pd} {σ0 ρ0 : Zs} {τ : Prop} {X : Nat → Nat → Nat} {σ ρ : Zs} {s w y : Nat}
theorem l_max {b v : Int64} : (if lg_cmp v b ≤ 0 then b else v) = (if v < b then b else v) := by
  by_cases q : v < b
  · rw [if_pos q, if_pos (l_cmple.mpr (l_nlt.mp fun q2 => absurd (Int64.lt_trans q q2) Int64.lt_irrefl))]
  · rw [if_neg q]
    by_cases e : v = b
    · subst e; split <;> rfl
    · rw [if_neg]
      intro q2
      have q3 := l_cmple.mp q2
      have q4 := l_nlt.mp q
      rw [Int64.le_iff_toInt_le] at q3 q4
      exact e (Int64.toInt_inj.mp (by omega))
theorem l_min {b v : Int64} : (if 0 ≤ lg_cmp v b then b else v) = (if v < b then v else b) := by
  by_cases q : v < b
  · rw [if_pos q, if_neg (fun q2 => absurd q (l_nlt.mpr (l_cmpge.mp q2)))]
  · rw [if_neg q, if_pos (l_cmpge.mpr (l_nlt.mp q))]
theorem add_C {k z p : Nat} {v : Int64} (hw : w < k) (hk : k ≤ 60) (h640 : zI σ 640 P s 0 = nI k) (hz : zI σ 1668 P s w = nI z) (hz2 : z < 2147483648) (hy : 2 ≤ y) (hy6 : y < 6) (hp : 22 ≤ p) (hp2 : p ≤ 26) : fX10_addTo P s (nI w) (nI (y - 2)) (nI (128 + p)) v σ = some ((), sJ σ 1669 P s (w * 4 + (y - 2)) (tot p z (zJ σ 1669 P s (w * 4 + (y - 2))) v)) := by
  unfold fX10_addTo
  have a1 : ¬ w < 0 := by omega
  have a2 : ¬ k ≤ w := by omega
  have a3 : ¬ y - 2 < 0 := by omega
  have a4 : y - 2 < 4 := by omega
  have a5 : w * 4 + (y - 2) < 240 := by omega
  have a6 : w < 60 := by omega
  simp (disch := omega) only [i_0, i_1, i_4, h640, hz, n_lt, n_le, n_eq, n_mul, n_add, n_gi, n_cl, a1, a2, a3, a4, a5, a6, ↓reduceIte]
  have m1 : ¬ nI 1 = (0 : Int32) := by decide
  have m2 : nI 0 = (0 : Int32) := rfl
  have hp3 : p = 22 ∨ p = 23 ∨ p = 24 ∨ p = 25 ∨ p = 26 := by omega
  rcases hp3 with rfl | rfl | rfl | rfl | rfl
  · have e1 : (nI (128 + 22) : Int32) = 150 := by decide
    by_cases q : z = 1
    · simp +decide (disch := omega) only [q, fX10_addTo_53, e1, m1, m2, n_gi, n_cl, a5, a6, ↓reduceIte, lt_k, tot]
    · simp +decide (disch := omega) only [q, fX10_addTo_53, e1, m1, m2, n_gi, n_cl, a5, a6, ↓reduceIte, lt_k, tot]
  · have e1 : ¬ (nI (128 + 23) : Int32) = 150 := by decide
    have e2 : (nI (128 + 23) : Int32) = 151 := by decide
    by_cases q : z = 1
    · simp +decide (disch := omega) only [q, fX10_addTo_53, e1, e2, m1, m2, n_gi, n_cl, a5, a6, ↓reduceIte, lt_k, tot, hz, n_i64]
    · simp +decide (disch := omega) only [q, fX10_addTo_53, e1, e2, m1, m2, n_gi, n_cl, a5, a6, ↓reduceIte, lt_k, tot, hz, n_i64]
  · have e1 : ¬ (nI (128 + 24) : Int32) = 150 := by decide
    have e2 : ¬ (nI (128 + 24) : Int32) = 151 := by decide
    have e3 : (nI (128 + 24) : Int32) = 152 := by decide
    by_cases q : z = 1
    · simp +decide (disch := omega) only [q, fX10_addTo_53, e1, e2, e3, m1, m2, n_gi, n_cl, a5, a6, ↓reduceIte, lt_k, tot]
    · simp +decide (disch := omega) only [q, fX10_addTo_53, e1, e2, e3, m1, m2, n_gi, n_cl, a5, a6, ↓reduceIte, lt_k, tot]
      rw [← l_min]
      split <;> rfl
  · have e1 : ¬ (nI (128 + 25) : Int32) = 150 := by decide
    have e2 : ¬ (nI (128 + 25) : Int32) = 151 := by decide
    have e3 : ¬ (nI (128 + 25) : Int32) = 152 := by decide
    have e4 : (nI (128 + 25) : Int32) = 153 := by decide
    by_cases q : z = 1
    · simp +decide (disch := omega) only [q, fX10_addTo_53, e1, e2, e3, e4, m1, m2, n_gi, n_cl, a5, a6, ↓reduceIte, lt_k, tot]
    · simp +decide (disch := omega) only [q, fX10_addTo_53, e1, e2, e3, e4, m1, m2, n_gi, n_cl, a5, a6, ↓reduceIte, lt_k, tot]
      rw [← l_max]
      split <;> rfl
  · have e1 : ¬ (nI (128 + 26) : Int32) = 150 := by decide
    have e2 : ¬ (nI (128 + 26) : Int32) = 151 := by decide
    have e3 : ¬ (nI (128 + 26) : Int32) = 152 := by decide
    have e4 : ¬ (nI (128 + 26) : Int32) = 153 := by decide
    by_cases q : z = 1
    · simp +decide (disch := omega) only [q, fX10_addTo_53, e1, e2, e3, e4, m1, m2, n_gi, n_cl, a5, a6, ↓reduceIte, lt_k, tot]
    · simp +decide (disch := omega) only [q, fX10_addTo_53, e1, e2, e3, e4, m1, m2, n_gi, n_cl, a5, a6, ↓reduceIte, lt_k, tot]
theorem put_R {x1 x3 x4 x5 : Int32} {c2 p2 s2 n2 cell : Nat} {K : Int32 → Int32 → Int32 → Zs → Option (Int32 × Zs)} {p z : Nat} {v b : Int64} {f : Int32} (hp : 22 ≤ p) (hp2 : p ≤ 26) (hz1 : 1 ≤ z) (hc : cell < 4320) (hf : (z = 1 ∧ f = nI 1) ∨ (1 < z ∧ f = nI 0)) (hb : 1 < z → p = 23 → b = lN (z - 1)) (hv : p = 23 → v = 1) :
    fX14_putIn_257 x1 c2 p2 s2 n2 x3 x4 x5 K (nI w) f (nI y) (nI p) (nI cell) v (if z = 1 then 0 else b) ρ = K (nI w) f (nI (y + 1)) (sJ ρ 1962 0 0 cell (tot p z b v)) := by
  unfold fX14_putIn_257
  have hp3 : p = 22 ∨ p = 23 ∨ p = 24 ∨ p = 25 ∨ p = 26 := by omega
  have m1 : ¬ nI 1 = (0 : Int32) := by decide
  have m2 : nI 0 = (0 : Int32) := rfl
  have eK : (nI y : Int32) + 1 = nI (y + 1) := (nI_succ y).symm
  rcases hp3 with rfl | rfl | rfl | rfl | rfl
  · have e1 : ¬ (nI 22 : Int32) = 23 := by decide
    have e2 : (nI 22 : Int32) = 22 := by decide
    rcases hf with ⟨rfl, rfl⟩ | ⟨q, rfl⟩
    · simp +decide (disch := omega) only [e1, e2, n_gi, n_cl, hc, ↓reduceIte, lt_k, tot, eK]
      rw [Int64.zero_add]
    · have q2 : ¬ z = 1 := by omega
      simp +decide (disch := omega) only [e1, e2, q2, n_gi, n_cl, hc, ↓reduceIte, lt_k, tot, eK]
  · have e1 : (nI 23 : Int32) = 23 := by decide
    have hv := hv rfl
    subst hv
    rcases hf with ⟨rfl, rfl⟩ | ⟨q, rfl⟩
    · simp +decide (disch := omega) only [e1, n_gi, n_cl, hc, ↓reduceIte, lt_k, tot, eK]
      rfl
    · have q2 : ¬ z = 1 := by omega
      have hb := hb q rfl
      subst hb
      simp +decide (disch := omega) only [e1, q2, n_gi, n_cl, hc, ↓reduceIte, lt_k, tot, eK]
      rw [lN_1, Nat.sub_add_cancel hz1]
  · have e1 : ¬ (nI 24 : Int32) = 23 := by decide
    have e2 : ¬ (nI 24 : Int32) = 22 := by decide
    have e3 : ¬ (nI 24 : Int32) = 26 := by decide
    have e4 : (nI 24 : Int32) = 24 := by decide
    rcases hf with ⟨rfl, rfl⟩ | ⟨q, rfl⟩
    · simp +decide (disch := omega) only [e1, e2, e3, e4, m1, m2, n_gi, n_cl, hc, ↓reduceIte, lt_k, tot, eK]
    · have q2 : ¬ z = 1 := by omega
      simp +decide (disch := omega) only [e1, e2, e3, e4, m1, m2, q2, n_gi, n_cl, hc, ↓reduceIte, lt_k, tot, eK, p_lmin]
  · have e1 : ¬ (nI 25 : Int32) = 23 := by decide
    have e2 : ¬ (nI 25 : Int32) = 22 := by decide
    have e3 : ¬ (nI 25 : Int32) = 26 := by decide
    have e4 : ¬ (nI 25 : Int32) = 24 := by decide
    rcases hf with ⟨rfl, rfl⟩ | ⟨q, rfl⟩
    · simp +decide (disch := omega) only [e1, e2, e3, e4, m1, m2, n_gi, n_cl, hc, ↓reduceIte, lt_k, tot, eK]
    · have q2 : ¬ z = 1 := by omega
      simp +decide (disch := omega) only [e1, e2, e3, e4, m1, m2, q2, n_gi, n_cl, hc, ↓reduceIte, lt_k, tot, eK, p_lmax]
  · have e1 : ¬ (nI 26 : Int32) = 23 := by decide
    have e2 : ¬ (nI 26 : Int32) = 22 := by decide
    have e3 : (nI 26 : Int32) = 26 := by decide
    rcases hf with ⟨rfl, rfl⟩ | ⟨q, rfl⟩
    · simp +decide (disch := omega) only [e1, e2, e3, m1, m2, n_gi, n_cl, hc, ↓reduceIte, lt_k, tot, eK]
    · have q2 : ¬ z = 1 := by omega
      simp +decide (disch := omega) only [e1, e2, e3, m1, m2, q2, n_gi, n_cl, hc, ↓reduceIte, lt_k, tot, eK]
/-- a window that is there: both find the same one, or none -/
theorem r_find_l {key : Int64} {b : Nat} {cl : Int32} (hN : dN d ≤ 12) (hs : s < dN d) (hb : b + dS d s < 2147483648) (h : EWin P d X σ ρ) : ∀ (k y n m : Nat), y + k = X 4 s → k < n → k < m → (∃ v, v < X 4 s ∧ fX10_placeFor_3 P s key (nI (b + dS d s)) cl n (nI y) σ = some (nI v, σ) ∧ fX14_findWindow_3 (nI s) key (nI b) m (nI y) ρ = some (nI v, ρ)) ∨ (fX10_placeFor_3 P s key (nI (b + dS d s)) cl n (nI y) σ = fX10_placeFor_54 P s key (nI (b + dS d s)) cl σ ∧ fX14_findWindow_3 (nI s) key (nI b) m (nI y) ρ = some (-nI 1, ρ)) := by
  obtain ⟨a1, a2, a3, a4, a5⟩ := h s hs
  have c12 : s < 12 := by omega
  intro k
  induction k with
  | zero =>
    intro y n m h1 h2 h3
    obtain ⟨n, rfl⟩ : ∃ j, n = j + 1 := ⟨n - 1, by omega⟩
    obtain ⟨m, rfl⟩ : ∃ j, m = j + 1 := ⟨m - 1, by omega⟩
    have b1 : X 4 s ≤ y := by omega
    right
    rw [fX10_placeFor_3, fX14_findWindow_3]
    simp (disch := omega) only [i_1, i_12, a3, a4, n_le, n_gi, n_cl, b1, c12, ↓reduceIte, and_self]
  | succ k ih =>
    intro y n m h1 h2 h3
    obtain ⟨n, rfl⟩ : ∃ j, n = j + 1 := ⟨n - 1, by omega⟩
    obtain ⟨m, rfl⟩ : ∃ j, m = j + 1 := ⟨m - 1, by omega⟩
    have b1 : ¬ X 4 s ≤ y := by omega
    have b2 : ¬ 60 ≤ y := by omega
    have b3 : y < 60 := by omega
    have b4 : 60 * s + y < 720 := by omega
    obtain ⟨b', z, cl', hb0, hc0, k1, k2, k3, k4, k5⟩ := a5 y (by omega)
    have hTB : TB s < 2000000 := by unfold TB; omega
    rw [fX10_placeFor_3, fX14_findWindow_3]
    simp (disch := omega) only [i_1, i_12, i_60, a3, a4, n_le, n_gi, n_cl, n_mul, n_add, b1, b2, b3, b4, c12, k2, k3, k4, n_eq, ↓reduceIte]
    by_cases q : lg_cmp (zJ ρ 1959 0 0 (60 * s + y)) key = 0
    · simp only [q, ↓reduceIte]
      by_cases q2 : b' = b
      · subst q2
        simp only [↓reduceIte]
        exact Or.inl ⟨y, by omega, rfl, rfl⟩
      · have q3 : ¬ b' + dS d s = b + dS d s := by omega
        simp only [q2, q3, ↓reduceIte]
        exact ih (y + 1) n m (by omega) (by omega) (by omega)
    · simp only [q, ↓reduceIte]
      exact ih (y + 1) n m (by omega) (by omega) (by omega)
end PU
