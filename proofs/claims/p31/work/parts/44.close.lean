/-! THE NEXT WINDOW TO CLOSE -/
def ahd (u v : Wn) : Bool := decide (u.2.1 < v.2.1) || (decide (u.2.1 = v.2.1) && decide (u.1 < v.1))
/-- one more than the number of the window to close, or 0 -/
def pck (f : Nat → Wn) (c : Nat → Bool) (M : Nat) : Nat → Nat → Nat → Nat
  | 0, b, _ => b
  | m + 1, b, y => if c y = true ∨ M ≤ (f y).2.1 ∨ (b ≠ 0 ∧ ahd (f y) (f (b - 1)) = false) then pck f c M m b (y + 1) else pck f c M m (y + 1) (y + 1)
theorem wm_0 : wmI 0 = -1 := by decide
theorem wm_p {b : Nat} (h : b ≠ 0) : wmI b = nI (b - 1) := by
  rw [wm_add, n_p1 (by omega)]
theorem wm_neg {b : Nat} (h : b < 1073741824) : wmI b < 0 ↔ b = 0 := by
  rw [i_0, wm_lt h (by omega)]; omega
section CLO
variable {z : Zs} {lim n k M : Nat} {f : Nat → Wn} {c : Nat → Bool}
theorem ah_C {u v : Nat} (h : Ws z k f c) (hk : k ≤ 60) (hB : ∀ i, i < k → (f i).2.1 < 1073741824) (hu : u < k) (hv : v < k) : fX10_isAhead 2 3 (nI u) (nI v) z = some (if ahd (f u) (f v) then 1 else 0, z) := by
  obtain ⟨a1, a2, _⟩ := h.2 u hu
  obtain ⟨b1, b2, _⟩ := h.2 v hv
  have gu : gi (nI u) 60 := (n_gi (by omega)).mpr (by omega)
  have gv : gi (nI v) 60 := (n_gi (by omega)).mpr (by omega)
  have cu : (nI u).toNatClampNeg = u := n_cl (by omega)
  have cv : (nI v).toNatClampNeg = v := n_cl (by omega)
  have A1 : zJ z 1665 2 3 (nI u).toNatClampNeg = (f u).1 := by rw [cu]; exact a1
  have A2 : zI z 1666 2 3 (nI u).toNatClampNeg = nI (f u).2.1 := by rw [cu]; exact a2
  have B1 : zJ z 1665 2 3 (nI v).toNatClampNeg = (f v).1 := by rw [cv]; exact b1
  have B2 : zI z 1666 2 3 (nI v).toNatClampNeg = nI (f v).2.1 := by rw [cv]; exact b2
  have e1 := hB u hu
  have e2 := hB v hv
  unfold fX10_isAhead ahd
  rw [if_pos gu, if_pos gv, A1, A2, B1, B2]
  by_cases q1 : (f u).2.1 < (f v).2.1
  · rw [if_pos ((n_lt (by omega) (by omega)).mpr q1)]
    simp only [q1, decide_true, Bool.true_or, if_pos]
  · rw [if_neg (fun q => q1 ((n_lt (by omega) (by omega)).mp q)), if_pos gu, if_pos gv]
    by_cases q2 : (f u).2.1 = (f v).2.1
    · rw [if_pos (by rw [q2]), if_pos gu, if_pos gv]
      by_cases q3 : (f u).1 < (f v).1
      · rw [if_neg (fun q => absurd (l_cmpge.mp q) (fun w => l_nlt.mpr w q3))]
        simp only [q2, q3, decide_true, Bool.and_self, Bool.or_true, if_pos]
      · rw [if_pos (l_cmpge.mpr (l_nlt.mp q3))]
        simp [q1, q3]
    · rw [if_neg (fun q => q2 ((n_eq (by omega) (by omega)).mp q))]
      simp [q1, q2]
/-- what the search leaves -/
def pckR (z : Zs) (B : Nat) : Option (Int32 × Zs) := if B = 0 then some (-1, z) else some (nI (B - 1), sI z 1667 2 3 (B - 1) 1)
theorem pck_C (h : Ws z k f c) (hk : k ≤ 60) (hB : ∀ i, i < k → (f i).2.1 < 1073741824) (hM : M < 1073741824) : ∀ (m b y r : Nat), y + m = k → m < r → b ≤ y → fX10_closeNext_4 2 3 (wmI M) r (wmI b) (nI y) z = pckR z (pck f c M m b y) := by
  have key : ∀ b, b ≤ k → (if wmI b < 0 then some (wmI b, z) else if gi (wmI b) 60 then lt (sI z 1667 2 3 (Int32.toNatClampNeg (wmI b)) 1) fun σ => some (wmI b, σ) else none) = pckR z b := by
    intro b hb
    unfold pckR
    by_cases q : b = 0
    · rw [if_pos ((wm_neg (by omega)).mpr q), if_pos q, q, wm_0]
    · rw [if_neg (fun w => q ((wm_neg (by omega)).mp w)), if_neg q, wm_p q, if_pos ((n_gi (by omega)).mpr (by omega)), lt_k, n_cl (by omega)]
  intro m
  induction m with
  | zero =>
    intro b y r hy hr hb
    obtain ⟨r, rfl⟩ : ∃ r', r = r' + 1 := ⟨r - 1, by omega⟩
    unfold fX10_closeNext_4
    rw [h.1, if_pos ((n_le (by omega) (by omega)).mpr (by omega))]
    exact key b (by omega)
  | succ m ih =>
    intro b y r hy hr hb
    obtain ⟨r, rfl⟩ : ∃ r', r = r' + 1 := ⟨r - 1, by omega⟩
    obtain ⟨a1, a2, a3, a4, a5, a6⟩ := h.2 y (by omega)
    have hc : (nI y).toNatClampNeg = y := n_cl (by omega)
    have b2 : zI z 1666 2 3 (nI y).toNatClampNeg = nI (f y).2.1 := by rw [hc]; exact a2
    have b3 : zI z 1667 2 3 (nI y).toNatClampNeg = (if c y then 1 else 0) := by rw [hc]; exact a3
    have gy : gi (nI y) 60 := (n_gi (by omega)).mpr (by omega)
    have hBy := hB y (by omega)
    have s1 : wmI (y + 1) = nI y := wm_p (by omega)
    unfold fX10_closeNext_4
    rw [h.1, if_neg (fun q => absurd ((n_le (by omega) (by omega)).mp q) (by omega)), i_60, if_neg (fun q => absurd ((n_le (by omega) (by omega)).mp q) (by omega)), if_pos gy, b2, b3, i_1, n_add]
    have go1 : (c y = true ∨ M ≤ (f y).2.1 ∨ (b ≠ 0 ∧ ahd (f y) (f (b - 1)) = false)) → fX10_closeNext_4 2 3 (wmI M) r (wmI b) (nI (y + 1)) z = pckR z (pck f c M (m + 1) b y) := fun q => by
      rw [show pck f c M (m + 1) b y = pck f c M m b (y + 1) from if_pos q]
      exact ih b (y + 1) r (by omega) (by omega) (by omega)
    have go2 : ¬ (c y = true ∨ M ≤ (f y).2.1 ∨ (b ≠ 0 ∧ ahd (f y) (f (b - 1)) = false)) → fX10_closeNext_4 2 3 (wmI M) r (nI y) (nI (y + 1)) z = pckR z (pck f c M (m + 1) b y) := fun q => by
      rw [show pck f c M (m + 1) b y = pck f c M m (y + 1) (y + 1) from if_neg q, ← s1]
      exact ih (y + 1) (y + 1) r (by omega) (by omega) (by omega)
    cases q1 : c y with
    | true => rw [if_pos rfl, if_neg (by decide)]; exact go1 (Or.inl q1)
    | false =>
      rw [if_pos (by decide), if_pos gy]
      by_cases q2 : M ≤ (f y).2.1
      · rw [if_pos ((wm_lt hM hBy).mpr q2)]; exact go1 (Or.inr (Or.inl q2))
      · rw [if_neg (fun q => q2 ((wm_lt hM hBy).mp q))]
        by_cases q3 : b = 0
        · rw [if_pos ((wm_neg (by omega)).mpr q3)]
          exact go2 (fun q => by rcases q with q | q | q; · rw [q1] at q; cases q
                                 · exact q2 q
                                 · exact q.1 q3)
        · rw [if_neg (fun q => q3 ((wm_neg (by omega)).mp q)), wm_p q3, bq_e (ah_C h hk hB (by omega) (by omega)), ← wm_p q3]
          cases q4 : ahd (f y) (f (b - 1)) with
          | true =>
            rw [if_pos rfl, if_neg (by decide)]
            exact go2 (fun q => by rcases q with q | q | q; · rw [q1] at q; cases q
                                   · exact q2 q
                                   · rw [q4] at q; cases q.2)
          | false =>
            rw [if_pos (by decide)]
            exact go1 (Or.inr (Or.inr ⟨q3, q4⟩))
theorem pck_le : ∀ (m b y : Nat), b ≤ y → pck f c M m b y ≤ y + m
  | 0, b, y, h => by unfold pck; omega
  | m + 1, b, y, h => by
    unfold pck
    split
    · have := pck_le m b (y + 1) (by omega); omega
    · have := pck_le m (y + 1) (y + 1) (by omega); omega
end CLO
