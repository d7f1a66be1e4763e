/-! A ROW COMES TO A WINDOW -/
theorem wm_add {m : Nat} : wmI m = nI m + -nI 1 := by
  unfold wmI
  rw [i_1, Int32.sub_eq_add_neg]
theorem wm_lt {k e : Nat} (hk : k < 1073741824) (he : e < 1073741824) : wmI k < nI e ↔ k ≤ e := by
  rw [wm_add, Int32.lt_iff_toInt_lt, nI_toInt (by omega)]
  cases k with
  | zero =>
    have : (nI 0 + -nI 1 : Int32).toInt = -1 := rfl
    rw [this]; omega
  | succ k => rw [n_p1 (by omega), nI_toInt (by omega)]; omega
theorem wm_le {k e : Nat} (hk : k < 1073741824) (he : e < 1073741824) : nI e ≤ wmI k ↔ e + 1 ≤ k := by
  rw [← i_nlt, wm_lt hk he]; omega
theorem end_C {t n : Nat} (ht : t < 2147483648) (hn0 : 0 < n) (hn : n < 2147483648) : nI t - (nI t - nI t / nI n * nI n) + nI n = nI (t / n * n + n) := by
  rw [pk_rem ht hn0 hn, n_sub (Nat.mod_le t n), n_add]
  congr 2
  have := Nat.div_add_mod t n
  rw [Nat.mul_comm] at this
  omega
/-- one window's cells -/
def Wf (z : Zs) (i : Nat) (u : Wn) (c : Bool) : Prop := zJ z 1665 2 3 i = u.1 ∧ zI z 1666 2 3 i = nI u.2.1 ∧ zI z 1667 2 3 i = (if c then 1 else 0) ∧ zI z 1668 2 3 i = nI u.2.2.1 ∧ zJ z 1669 2 3 (i * 4) = lN u.2.2.1 ∧ zJ z 1669 2 3 (i * 4 + 1) = u.2.2.2
/-- the first window of this key and this end, or their number -/
def plc (f : Nat → Wn) (key : Int64) (e : Nat) : Nat → Nat → Nat
  | 0, y => y
  | m + 1, y => if (f y).1 = key ∧ (f y).2.1 = e then y else plc f key e m (y + 1)
theorem plc_le {f : Nat → Wn} {key : Int64} {e : Nat} : ∀ m y, plc f key e m y ≤ y + m
  | 0, y => Nat.le_refl _
  | m + 1, y => by
    unfold plc
    split
    · omega
    · have := plc_le (f := f) (key := key) (e := e) m (y + 1); omega
theorem plc_m {f : Nat → Wn} {key : Int64} {e : Nat} : ∀ m y, plc f key e m y < y + m → (f (plc f key e m y)).1 = key ∧ (f (plc f key e m y)).2.1 = e
  | 0, y, h => absurd h (by unfold plc; omega)
  | m + 1, y, h => by
    unfold plc at h ⊢
    split
    · assumption
    · rename_i q
      rw [if_neg q] at h
      exact plc_m m (y + 1) (by omega)
section ENT
variable {z : Zs} {lim n k w : Nat} {f : Nat → Wn} {c : Nat → Bool} {key : Int64} {e : Nat}
theorem plc_C (h : Ws z k f c) (hk : k ≤ 60) (hb : ∀ i, i < k → (f i).2.1 < 1073741824) (he : e < 1073741824) : ∀ (m y r : Nat), y + m = k → m < r → fX10_placeFor_3 2 3 key (nI e) 0 r (nI y) z = if plc f key e m y = k then fX10_placeFor_54 2 3 key (nI e) 0 z else some (nI (plc f key e m y), z) := by
  intro m
  induction m with
  | zero =>
    intro y r hy hr
    obtain ⟨r, rfl⟩ : ∃ r', r = r' + 1 := ⟨r - 1, by omega⟩
    unfold fX10_placeFor_3 plc
    rw [h.1, if_pos ((n_le (by omega) (by omega)).mpr (by omega)), if_pos (by omega)]
  | succ m ih =>
    intro y r hy hr
    obtain ⟨r, rfl⟩ : ∃ r', r = r' + 1 := ⟨r - 1, by omega⟩
    obtain ⟨a1, a2, a3, a4, a5, a6⟩ := h.2 y (by omega)
    have hc : (nI y).toNatClampNeg = y := n_cl (by omega)
    have b1 : zJ z 1665 2 3 (nI y).toNatClampNeg = (f y).1 := by rw [hc]; exact a1
    have b2 : zI z 1666 2 3 (nI y).toNatClampNeg = nI (f y).2.1 := by rw [hc]; exact a2
    unfold fX10_placeFor_3
    rw [h.1, if_neg (fun q => absurd ((n_le (by omega) (by omega)).mp q) (by omega)), i_60, if_neg (fun q => absurd ((n_le (by omega) (by omega)).mp q) (by omega)), if_pos ((n_gi (by omega)).mpr (by omega)), b1, b2, i_1, n_add]
    by_cases q1 : (f y).1 = key
    · rw [if_pos (l_cmp0.mpr q1), if_pos ((n_gi (by omega)).mpr (by omega))]
      by_cases q2 : (f y).2.1 = e
      · rw [if_pos (by rw [q2]), show plc f key e (m + 1) y = y from if_pos ⟨q1, q2⟩, if_neg (by omega)]
      · rw [if_neg (fun q => q2 ((n_eq (by have := hb y (by omega); omega) (by omega)).mp q)), show plc f key e (m + 1) y = plc f key e m (y + 1) from if_neg (fun q => q2 q.2)]
        exact ih (y + 1) r (by omega) (by omega)
    · rw [if_neg (fun q => q1 (l_cmp0.mp q)), show plc f key e (m + 1) y = plc f key e m (y + 1) from if_neg (fun q => q1 q.1)]
      exact ih (y + 1) r (by omega) (by omega)
def newC (z : Zs) (k : Nat) (key : Int64) (e : Nat) : Zs := sI (sI (sI (sI (sJ z 1665 2 3 k key) 1666 2 3 k (nI e)) 1667 2 3 k 0) 1668 2 3 k 0) 640 2 3 0 (nI (k + 1))
theorem new_C (h : zI z 640 2 3 0 = nI k) (hk : k < 60) : fX10_placeFor_54 2 3 key (nI e) 0 z = some (nI k, newC z k key e) := by
  have g : gi (nI k) 60 := (n_gi (by omega)).mpr hk
  unfold fX10_placeFor_54
  have e0 : zI (sJ z 1665 2 3 k key) 640 2 3 0 = nI k := h
  have e1 : zI (sI (sJ z 1665 2 3 k key) 1666 2 3 k (nI e)) 640 2 3 0 = nI k := h
  have e2 : zI (sI (sI (sJ z 1665 2 3 k key) 1666 2 3 k (nI e)) 1667 2 3 k 0) 640 2 3 0 = nI k := h
  have e3 : zI (sI (sI (sI (sJ z 1665 2 3 k key) 1666 2 3 k (nI e)) 1667 2 3 k 0) 1668 2 3 k 0) 640 2 3 0 = nI k := h
  have hc : (nI k).toNatClampNeg = k := n_cl (by omega)
  rw [h, i_60, if_pos ((n_lt (by omega) (by omega)).mpr hk), if_pos g, lt_k, hc, e0, if_pos g, lt_k, hc, e1, if_pos g, if_pos (Or.inl rfl), lt_k, hc, e2, if_pos g, lt_k, hc, e3, lt_k, zI_sI, if_pos ⟨rfl, rfl, rfl, rfl⟩, i_1, n_add, n_sub (by omega), Nat.add_sub_cancel]
  rfl
def winl : List (Nat × Nat) := [(640, 2), (1665, 2), (1666, 2), (1667, 2), (1668, 2), (1669, 2)]
theorem new_O : Ot winl z (newC z k key e) := ((((Ot.sJ rfl).tr (Ot.sI rfl)).tr (Ot.sI rfl)).tr (Ot.sI rfl)).tr (Ot.sI rfl)
theorem new_W (h : Ws z k f c) : zI (newC z k key e) 640 2 3 0 = nI (k + 1) ∧ (∀ i, i < k → Wf (newC z k key e) i (f i) (c i)) ∧ zJ (newC z k key e) 1665 2 3 k = key ∧ zI (newC z k key e) 1666 2 3 k = nI e ∧ zI (newC z k key e) 1667 2 3 k = 0 ∧ zI (newC z k key e) 1668 2 3 k = nI 0 := by
  unfold newC
  refine ⟨by rw [zI_sI, if_pos ⟨rfl, rfl, rfl, rfl⟩], fun i hi => ?_, ?_, ?_, ?_, ?_⟩
  · obtain ⟨a1, a2, a3, a4, a5, a6⟩ := h.2 i hi
    have hn : ¬ i = k := by omega
    refine ⟨?_, ?_, ?_, ?_, a5, a6⟩
    · show zJ (sJ z 1665 2 3 k key) 1665 2 3 i = _
      rw [zJ_sJ, if_neg (fun q => hn q.2.2.2)]; exact a1
    · rw [sI_c (by decide), sI_c (by decide), sI_c (by decide), zI_sI, if_neg (fun q => hn q.2.2.2)]; exact a2
    · rw [sI_c (by decide), sI_c (by decide), zI_sI, if_neg (fun q => hn q.2.2.2), sI_c (by decide)]; exact a3
    · rw [sI_c (by decide), zI_sI, if_neg (fun q => hn q.2.2.2), sI_c (by decide), sI_c (by decide)]; exact a4
  · show zJ (sJ z 1665 2 3 k key) 1665 2 3 k = _
    rw [zJ_sJ, if_pos ⟨rfl, rfl, rfl, rfl⟩]
  · rw [sI_c (by decide), sI_c (by decide), sI_c (by decide), zI_sI, if_pos ⟨rfl, rfl, rfl, rfl⟩]
  · rw [sI_c (by decide), sI_c (by decide), zI_sI, if_pos ⟨rfl, rfl, rfl, rfl⟩]
  · rw [sI_c (by decide), zI_sI, if_pos ⟨rfl, rfl, rfl, rfl⟩]; rfl
theorem bmp_W {z1 y : Zs} {k1 sz : Nat} {u : Wn} {S : Int64} (h640 : zI z1 640 2 3 0 = nI k1) (ho : ∀ i, i < k1 → i ≠ w → Wf z1 i (f i) false) (h1 : zJ z1 1665 2 3 w = u.1) (h2 : zI z1 1666 2 3 w = nI u.2.1) (h3 : zI z1 1667 2 3 w = 0) (hy : Ot ckS (sJ (sI z1 1668 2 3 w (nI (sz + 1))) 1669 2 3 (w * 4) (lN (sz + 1))) y) : Ws (sJ y 1669 2 3 (w * 4 + 1) S) k1 (pushF w f (u.1, u.2.1, sz + 1, S)) (fun _ => false) := by
  refine ⟨?_, fun i hi => ?_⟩
  · show zI y 640 2 3 0 = _
    rw [hy.I rfl]
    exact h640
  · by_cases q : i = w
    · subst q
      rw [pushF_s]
      refine ⟨?_, ?_, ?_, ?_, ?_, ?_⟩
      · show zJ (sJ y 1669 2 3 (i * 4 + 1) S) 1665 2 3 i = _
        rw [sJ_c (by decide), hy.J rfl, sJ_c (by decide)]; exact h1
      · show zI y 1666 2 3 i = _
        rw [hy.I rfl]; exact h2
      · show zI y 1667 2 3 i = _
        rw [hy.I rfl]; exact h3
      · show zI y 1668 2 3 i = _
        rw [hy.I rfl]
        show zI (sI z1 1668 2 3 i (nI (sz + 1))) 1668 2 3 i = _
        rw [zI_sI, if_pos ⟨rfl, rfl, rfl, rfl⟩]
      · rw [zJ_sJ, if_neg (fun q => absurd q.2.2.2 (by omega)), hy.J rfl, zJ_sJ, if_pos ⟨rfl, rfl, rfl, rfl⟩]
      · rw [zJ_sJ, if_pos ⟨rfl, rfl, rfl, rfl⟩]
    · obtain ⟨a1, a2, a3, a4, a5, a6⟩ := ho i hi q
      rw [show pushF w f (u.1, u.2.1, sz + 1, S) i = f i from if_neg q]
      refine ⟨?_, ?_, ?_, ?_, ?_, ?_⟩
      · rw [sJ_c (by decide), hy.J rfl, sJ_c (by decide)]; exact a1
      · show zI y 1666 2 3 i = _
        rw [hy.I rfl]; exact a2
      · show zI y 1667 2 3 i = _
        rw [hy.I rfl]; exact a3
      · show zI y 1668 2 3 i = _
        rw [hy.I rfl]
        show zI (sI z1 1668 2 3 w (nI (sz + 1))) 1668 2 3 i = _
        rw [zI_sI, if_neg (fun e => q e.2.2.2)]; exact a4
      · rw [zJ_sJ, if_neg (fun e => absurd e.2.2.2 (by omega)), hy.J rfl, zJ_sJ, if_neg (fun e => absurd e.2.2.2 (by omega))]; exact a5
      · rw [zJ_sJ, if_neg (fun e => absurd e.2.2.2 (by omega)), hy.J rfl, zJ_sJ, if_neg (fun e => absurd e.2.2.2 (by omega))]; exact a6
end ENT
