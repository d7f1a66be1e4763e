/-! LEAVES: rows and tables of the class in closed form -/
theorem wRow_of {σ z : Zs} {p s : Nat} {t w : Int32} {f : Nat → Int64} (h1 : ∀ c p' s' i, zI z c p' s' i = if c = 384 ∧ p' = p ∧ s' = s ∧ i = 0 then t else if c = 385 ∧ p' = p ∧ s' = s ∧ i = 0 then w else zI σ c p' s' i) (h2 : ∀ c p' s' i, zJ z c p' s' i = if c = 1410 ∧ p' = p ∧ s' = s then f i else zJ σ c p' s' i) (h3 : ∀ c p' s' i, zR z c p' s' i = zR σ c p' s' i) : z = wRow σ p s t w f := zs_ext h1 h2 h3
theorem row_start {p s : Nat} {x : Int32} {σ : Zs} : fX6_startAt p s x σ = some ((), wRow σ p s x (nI 0) (zJ σ 1410 p s)) := by
  unfold fX6_startAt
  simp only [lt_k]
  refine congrArg (fun z => some ((), z)) (wRow_of (fun c p' s' i => ?_) (fun c p' s' i => ?_) (fun _ _ _ _ => rfl))
  · rw [zI_sI, zI_sI]
    by_cases h : c = 385 ∧ p' = p ∧ s' = s ∧ i = 0
    · rw [if_pos h, if_neg (by omega), if_pos h]; rfl
    · rw [if_neg h, if_neg h]
  · show zJ σ c p' s' i = _
    split
    · rename_i h; obtain ⟨rfl, rfl, rfl⟩ := h; rfl
    · rfl
theorem row_app {p s w : Nat} {x : Int64} {σ : Zs} (hw : zI σ 385 p s 0 = nI w) (h6 : w < 6) : fX6_append p s x σ = some ((), wRow σ p s (zI σ 384 p s 0) (nI (w + 1)) (fun j => if j = w then x else zJ σ 1410 p s j)) := by
  unfold fX6_append
  have a1 : ¬ 6 ≤ w := by omega
  have a2 : ¬ w < 0 := by omega
  simp (disch := omega) only [hw, i_0, i_6, n_lt, n_le, n_gi, n_cl, a1, a2, h6, ↓reduceIte, lt_k]
  refine congrArg (fun z => some ((), z)) (wRow_of (fun c p' s' i => ?_) (fun c p' s' i => ?_) (fun _ _ _ _ => rfl))
  · simp only [zI_sI, zI_sJ, hw, nI_succ]; grind
  · simp only [zJ_sI, zJ_sJ]; grind
theorem row_num {p s j : Nat} {σ : Zs} (h : j < 6) : fX6_numberAt p s (nI j) σ = some (zJ σ 1410 p s j, σ) := by
  unfold fX6_numberAt
  have a1 : ¬ 6 ≤ j := by omega
  have a2 : ¬ j < 0 := by omega
  simp (disch := omega) only [i_0, i_6, n_lt, n_le, n_gi, n_cl, a1, a2, h, ↓reduceIte]
theorem row_cp {p s p1 s1 : Nat} (hne : ¬ (p1 = p ∧ s1 = s)) : ∀ (k y n : Nat) (σ : Zs), y + k = 6 → k < n → fX6_copyFrom_18 p s p1 s1 n (nI y) σ = some ((), jJ σ 1410 p s (fun j => if y ≤ j ∧ j < 6 then zJ σ 1410 p1 s1 j else zJ σ 1410 p s j)) := by
  intro k
  induction k with
  | zero =>
    intro y n σ h1 h2
    obtain ⟨n, rfl⟩ : ∃ m, n = m + 1 := ⟨n - 1, by omega⟩
    have e : y = 6 := by omega
    subst e
    rw [fX6_copyFrom_18]
    have a : (6 : Nat) ≤ 6 := Nat.le_refl _
    simp (disch := omega) only [i_6, n_le, a, ↓reduceIte]
    rw [show (fun j => if 6 ≤ j ∧ j < 6 then zJ σ 1410 p1 s1 j else zJ σ 1410 p s j) = zJ σ 1410 p s from funext fun j => if_neg (by omega), jJ_self]
  | succ k ih =>
    intro y n σ h1 h2
    obtain ⟨n, rfl⟩ : ∃ m, n = m + 1 := ⟨n - 1, by omega⟩
    rw [fX6_copyFrom_18]
    have a1 : ¬ 6 ≤ y := by omega
    have a2 : y < 6 := by omega
    simp (disch := omega) only [i_6, i_1, n_le, n_gi, n_cl, n_add, a1, a2, ↓reduceIte, lt_k]
    rw [ih (y + 1) n _ (by omega) (by omega), jJ_sJ]
    refine congrArg (fun f => some ((), jJ σ 1410 p s f)) (funext fun j => ?_)
    have e : ∀ j, zJ (sJ σ 1410 p s y (zJ σ 1410 p1 s1 y)) 1410 p1 s1 j = zJ σ 1410 p1 s1 j := fun j => by
      rw [zJ_sJ, if_neg (fun q => hne ⟨q.2.1, q.2.2.1⟩)]
    rw [e, zJ_sJ]
    by_cases h : y + 1 ≤ j ∧ j < 6
    · rw [if_pos h, if_pos (by omega)]
    · rw [if_neg h]
      by_cases h3 : j = y
      · subst h3; rw [if_pos ⟨rfl, rfl, rfl, rfl⟩, if_pos (by omega)]
      · rw [if_neg (fun q => h3 q.2.2.2), if_neg (by omega)]
theorem row_copy {p s p1 s1 : Nat} {σ : Zs} (hne : ¬ (p1 = p ∧ s1 = s)) : fX6_copyFrom p s p1 s1 σ = some ((), wRow σ p s (zI σ 384 p1 s1 0) (zI σ 385 p1 s1 0) (fun j => if j < 6 then zJ σ 1410 p1 s1 j else zJ σ 1410 p s j)) := by
  unfold fX6_copyFrom
  simp only [lt_k]
  rw [i_0, row_cp hne 6 0 FU _ (by omega) (by unfold FU; omega)]
  refine congrArg (fun z => some ((), z)) (wRow_of (fun c p' s' i => ?_) (fun c p' s' i => ?_) (fun _ _ _ _ => rfl))
  · simp only [zI_jJ, zI_sI]; grind
  · simp only [zJ_jJ, zJ_sI]; grind
/-- a table with one row more -/
def addT (σ : Zs) (P s r p1 s1 : Nat) : Zs := sI (jJ (sI σ 1538 P s r (zI σ 384 p1 s1 0)) 1539 P s (fun j => if r * 6 ≤ j ∧ j < r * 6 + 6 then zJ σ 1410 p1 s1 (j - r * 6) else zJ σ 1539 P s j)) 512 P s 0 (nI (r + 1))
theorem tab_add_l {P s r p1 s1 : Nat} (hr : r < 200) : ∀ (k y n : Nat) (σ : Zs), y + k = 6 → k < n → zI σ 512 P s 0 = nI r → fX8_add_29 P s p1 s1 n (nI y) σ = some (1, sI (jJ σ 1539 P s (fun j => if r * 6 + y ≤ j ∧ j < r * 6 + 6 then zJ σ 1410 p1 s1 (j - r * 6) else zJ σ 1539 P s j)) 512 P s 0 (nI (r + 1))) := by
  intro k
  induction k with
  | zero =>
    intro y n σ h1 h2 h3
    obtain ⟨n, rfl⟩ : ∃ m, n = m + 1 := ⟨n - 1, by omega⟩
    have e : y = 6 := by omega
    subst e
    rw [fX8_add_29]
    have a : (6 : Nat) ≤ 6 := Nat.le_refl _
    simp (disch := omega) only [i_6, n_le, a, ↓reduceIte, lt_k, h3]
    rw [show (fun j => if r * 6 + 6 ≤ j ∧ j < r * 6 + 6 then zJ σ 1410 p1 s1 (j - r * 6) else zJ σ 1539 P s j) = zJ σ 1539 P s from funext fun j => if_neg (by omega), jJ_self, nI_succ]
  | succ k ih =>
    intro y n σ h1 h2 h3
    obtain ⟨n, rfl⟩ : ∃ m, n = m + 1 := ⟨n - 1, by omega⟩
    rw [fX8_add_29]
    have a1 : ¬ 6 ≤ y := by omega
    have a2 : y < 6 := by omega
    have a3 : r * 6 + y < 1200 := by omega
    simp (disch := omega) only [h3, i_6, n_le, n_gi, n_cl, n_mul, n_add, a1, a2, a3, ↓reduceIte, lt_k]
    rw [show (1 : Int32) = nI 1 from rfl, n_add]
    refine (ih (y + 1) n _ (by omega) (by omega) (by exact h3)).trans ?_
    rw [jJ_sJ]
    refine congrArg (fun f => some (1, sI (jJ σ 1539 P s f) 512 P s 0 (nI (r + 1)))) (funext fun j => ?_)
    have e : ∀ j, zJ (sJ σ 1539 P s (r * 6 + y) (zJ σ 1410 p1 s1 y)) 1410 p1 s1 j = zJ σ 1410 p1 s1 j := fun j => rfl
    rw [e, zJ_sJ]
    by_cases h : r * 6 + (y + 1) ≤ j ∧ j < r * 6 + 6
    · rw [if_pos h, if_pos (by omega)]
    · rw [if_neg h]
      by_cases h3 : j = r * 6 + y
      · subst h3
        rw [if_pos ⟨rfl, rfl, rfl, rfl⟩, if_pos (by omega), Nat.add_sub_cancel_left]
      · rw [if_neg (fun q => h3 q.2.2.2), if_neg (by omega)]
theorem tab_add {P s r p1 s1 : Nat} {σ : Zs} (hr : r < 200) (h : zI σ 512 P s 0 = nI r) : fX8_add P s p1 s1 σ = some (1, addT σ P s r p1 s1) := by
  unfold fX8_add
  have a1 : r < 200 := hr
  simp (disch := omega) only [h, i_200, i_0, n_lt, n_gi, n_cl, a1, ↓reduceIte, lt_k]
  exact tab_add_l hr 6 0 FU _ (by omega) (by unfold FU; omega) h
theorem tab_full {P s p1 s1 : Nat} {σ : Zs} (h : zI σ 512 P s 0 = nI 200) : fX8_add P s p1 s1 σ = some (0, σ) := by
  unfold fX8_add
  have a1 : ¬ (200 : Nat) < 200 := by omega
  simp (disch := omega) only [h, i_200, n_lt, a1, ↓reduceIte]
theorem tab_time {P s r i : Nat} {σ : Zs} (h : zI σ 512 P s 0 = nI r) (hr : r ≤ 200) (hi : i < r) : fX8_timeOf P s (nI i) σ = some (zI σ 1538 P s i, σ) := by
  unfold fX8_timeOf
  have a1 : ¬ i < 0 := by omega
  have a2 : ¬ r ≤ i := by omega
  have a3 : i < 200 := by omega
  simp (disch := omega) only [h, i_0, n_lt, n_le, n_gi, n_cl, a1, a2, a3, ↓reduceIte]
theorem tab_num {P s r w i c : Nat} {σ : Zs} (h : zI σ 512 P s 0 = nI r) (h2 : zI σ 513 P s 0 = nI w) (hr : r ≤ 200) (hi : i < r) (hw : w ≤ 6) (hc : c < w) : fX8_numberOf P s (nI i) (nI c) σ = some (zJ σ 1539 P s (i * 6 + c), σ) := by
  unfold fX8_numberOf
  have a1 : ¬ i < 0 := by omega
  have a2 : ¬ r ≤ i := by omega
  have a3 : ¬ c < 0 := by omega
  have a4 : ¬ w ≤ c := by omega
  have a5 : c < 6 := by omega
  have a6 : i * 6 + c < 1200 := by omega
  simp (disch := omega) only [h, h2, i_0, i_6, n_lt, n_le, n_gi, n_cl, n_mul, n_add, a1, a2, a3, a4, a5, a6, ↓reduceIte]
theorem tab_cp {P s r w i p2 s2 : Nat} (hr : r ≤ 200) (hi : i < r) (hw : w ≤ 6) : ∀ (k y n : Nat) (σ : Zs), y + k = w → k < n → zI σ 512 P s 0 = nI r → zI σ 513 P s 0 = nI w → zI σ 385 p2 s2 0 = nI y → fX8_copyTo_11 P s (nI i) p2 s2 n (nI y) σ = some ((), wRow σ p2 s2 (zI σ 384 p2 s2 0) (nI w) (fun j => if y ≤ j ∧ j < w then zJ σ 1539 P s (i * 6 + j) else zJ σ 1410 p2 s2 j)) := by
  intro k
  induction k with
  | zero =>
    intro y n σ h1 h2 h3 h4 h5
    obtain ⟨n, rfl⟩ : ∃ m, n = m + 1 := ⟨n - 1, by omega⟩
    have e : y = w := by omega
    subst e
    rw [fX8_copyTo_11]
    have a : y ≤ y := Nat.le_refl _
    simp (disch := omega) only [h4, n_le, a, ↓reduceIte]
    refine congrArg (fun z => some ((), z)) (wRow_of (fun c p' s' i => ?_) (fun c p' s' i => ?_) (fun _ _ _ _ => rfl))
    · split
      · rename_i q; obtain ⟨rfl, rfl, rfl, rfl⟩ := q; rfl
      · split
        · rename_i q; obtain ⟨rfl, rfl, rfl, rfl⟩ := q; exact h5
        · rfl
    · split
      · rename_i q; obtain ⟨rfl, rfl, rfl⟩ := q
        rw [if_neg (by omega)]
      · rfl
  | succ k ih =>
    intro y n σ h1 h2 h3 h4 h5
    obtain ⟨n, rfl⟩ : ∃ m, n = m + 1 := ⟨n - 1, by omega⟩
    rw [fX8_copyTo_11]
    have a1 : ¬ w ≤ y := by omega
    simp (disch := omega) only [h4, n_le, a1, ↓reduceIte]
    rw [bq_e (tab_num h3 h4 hr hi hw (by omega)), bq_e (row_app h5 (by omega)), i_1, n_add]
    refine (ih (y + 1) n _ (by omega) (by omega) (by exact h3) (by exact h4) ?_).trans ?_
    · rw [zI_wRow, if_neg (by omega), if_pos ⟨rfl, rfl, rfl, rfl⟩]
    rw [wRow_w]
    have e1 : zI (wRow σ p2 s2 (zI σ 384 p2 s2 0) (nI (y + 1)) fun j => if j = y then zJ σ 1539 P s (i * 6 + y) else zJ σ 1410 p2 s2 j) 384 p2 s2 0 = zI σ 384 p2 s2 0 := by rw [zI_wRow, if_pos ⟨rfl, rfl, rfl, rfl⟩]
    rw [e1]
    refine congrArg (fun f => some ((), wRow σ p2 s2 (zI σ 384 p2 s2 0) (nI w) f)) (funext fun j => ?_)
    simp only [zJ_wRow]
    grind
theorem tab_copy {P s r w i p2 s2 : Nat} {σ : Zs} (hr : r ≤ 200) (hi : i < r) (hw : w ≤ 6) (h3 : zI σ 512 P s 0 = nI r) (h4 : zI σ 513 P s 0 = nI w) : fX8_copyTo P s (nI i) p2 s2 σ = some ((), wRow σ p2 s2 (zI σ 1538 P s i) (nI w) (fun j => if j < w then zJ σ 1539 P s (i * 6 + j) else zJ σ 1410 p2 s2 j)) := by
  unfold fX8_copyTo
  rw [bq_e (tab_time h3 hr hi), bq_e row_start, i_0]
  refine (tab_cp hr hi hw w 0 FU _ (by omega) (by unfold FU; omega) (by exact h3) (by exact h4) ?_).trans ?_
  · rw [zI_wRow, if_neg (by omega), if_pos ⟨rfl, rfl, rfl, rfl⟩]
  rw [wRow_w]
  have e1 : zI (wRow σ p2 s2 (zI σ 1538 P s i) (nI 0) (zJ σ 1410 p2 s2)) 384 p2 s2 0 = zI σ 1538 P s i := by rw [zI_wRow, if_pos ⟨rfl, rfl, rfl, rfl⟩]
  rw [e1]
  refine congrArg (fun f => some ((), wRow σ p2 s2 (zI σ 1538 P s i) (nI w) f)) (funext fun j => ?_)
  simp only [zJ_wRow]
  grind
