/-! THE CLASS'S PARSER BY ITSELF: every function ends, keeps the cells sane, and an error sticks -/
def wK (S c q : Nat) : Bool := decide (q = 0) && [258, 259, 260, 261, 262, 263, 192, 193, 194, 195, 196, 197, 198, 199, 201, 202, 203, 204, 205, 1224].contains c || decide (q = S) && [0, 1, 2, 3, 321, 323, 326, 448, 449, 450, 453, 454, 455, 456, 1348, 1349, 1475, 1476, 1481, 1482, 1483].contains c
def CFr (S : Nat) (σ0 σ : Zs) : Prop := ∀ c q, wK S c q = false → ∀ s i, zI σ c q s i = zI σ0 c q s i ∧ zJ σ c q s i = zJ σ0 c q s i ∧ zR σ c q s i = zR σ0 c q s i
def KT (σ : Zs) : Prop := (∃ C, C ≤ 1501 ∧ zI σ 580 0 0 0 = nI C ∧ ∀ j, j < C → ∃ a, a < 2147483648 ∧ zI σ 1601 0 0 j = nI a) ∧ (zI σ 192 0 0 0 = 0 → zI σ 193 0 0 0 = -nI 1)
def KI0 (S : Nat) (σ : Zs) : Prop := zR σ 194 0 0 0 = (S, 0) ∧ (∃ n, n ≤ 12 ∧ zI σ 321 S 0 0 = nI n) ∧ (∃ n, n ≤ 8 ∧ zI σ 323 S 0 0 = nI n) ∧ (∃ n, n ≤ 1500 ∧ zI σ 326 S 0 0 = nI n) ∧ (∃ n, n ≤ 1500 ∧ zI σ 201 0 0 0 = nI n) ∧ (∀ p s, ∃ w, w ≤ 6 ∧ zI σ 450 p s 0 = nI w)
  ∧ (zI σ 258 0 0 0 = -nI 1 ∨ ((∃ a, a < 2147483648 ∧ zI σ 258 0 0 0 = nI a) ∧ zI σ 260 0 0 0 = 1)) ∧ (∃ a, a < 2147483648 ∧ zI σ 261 0 0 0 = nI a) ∧ KT σ
def KIb (S b : Nat) (σ : Zs) : Prop := zI σ 192 0 0 0 = 0 → zI σ 197 0 0 0 = nI b ∧ (b = 0 → (zR σ 195 0 0 0).1 = S ∧ ∃ n, n < 12 ∧ zI σ 321 S 0 0 = nI n) ∧ (b = 1 → (zR σ 196 0 0 0).1 = S ∧ ∃ n, n < 8 ∧ zI σ 323 S 0 0 = nI n)
def Sk (S : Nat) (σ0 σ : Zs) : Prop := CFr S σ0 σ ∧ (zI σ0 192 0 0 0 ≠ 0 → zI σ 192 0 0 0 = zI σ0 192 0 0 0 ∧ zI σ 193 0 0 0 = zI σ0 193 0 0 0) ∧ (zI σ0 258 0 0 0 ≠ -nI 1 → zI σ 258 0 0 0 = zI σ0 258 0 0 0)
def St0 (S : Nat) (σ0 σ : Zs) : Prop := KI0 S σ ∧ Sk S σ0 σ
def St (S b : Nat) (σ0 σ : Zs) : Prop := KIb S b σ ∧ St0 S σ0 σ
theorem CFr.rf {S : Nat} {σ : Zs} : CFr S σ σ := fun _ _ _ _ _ => ⟨rfl, rfl, rfl⟩
theorem CFr.tr {S : Nat} {σ0 σ1 σ2 : Zs} (h : CFr S σ0 σ1) (k : CFr S σ1 σ2) : CFr S σ0 σ2 := fun c q w s i => ⟨((k c q w s i).1).trans (h c q w s i).1, ((k c q w s i).2.1).trans (h c q w s i).2.1, ((k c q w s i).2.2).trans (h c q w s i).2.2⟩
theorem Sk.rf {S : Nat} {σ : Zs} : Sk S σ σ := ⟨CFr.rf, fun _ => ⟨rfl, rfl⟩, fun _ => rfl⟩
theorem Sk.tr {S : Nat} {σ0 σ1 σ2 : Zs} (h : Sk S σ0 σ1) (k : Sk S σ1 σ2) : Sk S σ0 σ2 := by
  refine ⟨h.1.tr k.1, fun q => ?_, fun q => ?_⟩
  · obtain ⟨a, b⟩ := h.2.1 q
    obtain ⟨c, e⟩ := k.2.1 (by rw [a]; exact q)
    exact ⟨c.trans a, e.trans b⟩
  · have a := h.2.2 q
    exact (k.2.2 (by rw [a]; exact q)).trans a
section KP
variable {S b c q s i : Nat} {σ0 z : Zs} {v : Int32} {w : Int64} {r : Nat × Nat} {α β : Type}
theorem CFr.I (h : CFr S σ0 z) (hw : wK S c q = true) : CFr S σ0 (sI z c q s i v) := by
  intro c' q' hc s' i'
  obtain ⟨h1, h2, h3⟩ := h c' q' hc s' i'
  refine ⟨?_, h2, h3⟩
  rw [zI_sI, if_neg, h1]
  rintro ⟨rfl, rfl, _⟩
  rw [hw] at hc
  cases hc
theorem CFr.J (h : CFr S σ0 z) (hw : wK S c q = true) : CFr S σ0 (sJ z c q s i w) := by
  intro c' q' hc s' i'
  obtain ⟨h1, h2, h3⟩ := h c' q' hc s' i'
  refine ⟨h1, ?_, h3⟩
  rw [zJ_sJ, if_neg, h2]
  rintro ⟨rfl, rfl, _⟩
  rw [hw] at hc
  cases hc
theorem CFr.R (h : CFr S σ0 z) (hw : wK S c q = true) : CFr S σ0 (sR z c q s i r) := by
  intro c' q' hc s' i'
  obtain ⟨h1, h2, h3⟩ := h c' q' hc s' i'
  refine ⟨h1, h2, ?_⟩
  rw [zR_sR, if_neg, h3]
  rintro ⟨rfl, rfl, _⟩
  rw [hw] at hc
  cases hc
def kno (c : Nat) : Bool := !([192, 193, 197, 201, 258, 260, 261, 321, 323, 326, 450, 580, 1601].contains c)
theorem kno_n {c e : Nat} (h : kno c = true) (he : kno e = false) : ¬ e = c := by
  intro q; rw [q, h] at he; cases he
theorem sI_o {c e q2 s2 i2 : Nat} (h : ¬ e = c) : zI (sI z c q s i v) e q2 s2 i2 = zI z e q2 s2 i2 := by
  rw [zI_sI, if_neg (fun q => h q.1)]
theorem KI0.I (h : KI0 S z) (hc : kno c = true) : KI0 S (sI z c q s i v) := by
  obtain ⟨h1, h2, h3, h4, h5, h6, h7, h8, ⟨C, k1, k2, k3⟩, k4⟩ := h
  have e : ∀ {f q2 s2 i2 : Nat}, kno f = false → zI (sI z c q s i v) f q2 s2 i2 = zI z f q2 s2 i2 := fun hf => sI_o (kno_n hc hf)
  refine ⟨h1, ?_, ?_, ?_, ?_, fun p s => ?_, ?_, ?_, ⟨C, k1, ?_, fun j hj => ?_⟩, ?_⟩
  · rw [e rfl]; exact h2
  · rw [e rfl]; exact h3
  · rw [e rfl]; exact h4
  · rw [e rfl]; exact h5
  · rw [e rfl]; exact h6 p s
  · rw [e rfl, e rfl]; exact h7
  · rw [e rfl]; exact h8
  · rw [e rfl]; exact k2
  · rw [e rfl]; exact k3 j hj
  · rw [e rfl, e rfl]; exact k4
theorem St0.I (h : St0 S σ0 z) (hw : wK S c q = true) (hc : kno c = true) : St0 S σ0 (sI z c q s i v) := by
  obtain ⟨h1, h2, h3, h4⟩ := h
  refine ⟨h1.I hc, h2.I hw, fun k => ?_, fun k => ?_⟩
  · rw [sI_o (kno_n hc rfl), sI_o (kno_n hc rfl)]; exact h3 k
  · rw [sI_o (kno_n hc rfl)]; exact h4 k
theorem St.I (h : St S b σ0 z) (hw : wK S c q = true) (hc : kno c = true) : St S b σ0 (sI z c q s i v) := by
  obtain ⟨h0, h⟩ := h
  refine ⟨fun k => ?_, h.I hw hc⟩
  rw [sI_o (kno_n hc rfl)] at k
  rw [sI_o (kno_n hc rfl), sI_o (kno_n hc rfl), sI_o (kno_n hc rfl)]
  exact h0 k
theorem St0.J (h : St0 S σ0 z) (hw : wK S c q = true) : St0 S σ0 (sJ z c q s i w) := ⟨h.1, h.2.1.J hw, h.2.2⟩
theorem St.J (h : St S b σ0 z) (hw : wK S c q = true) : St S b σ0 (sJ z c q s i w) := ⟨h.1, h.2.J hw⟩
theorem St.R (h : St S b σ0 z) (hw : wK S c q = true) (hc : c = 198 ∨ c = 199) : St S b σ0 (sR z c q s i r) := by
  obtain ⟨h0, ⟨h1, h2⟩, h3, h4⟩ := h
  rcases hc with rfl | rfl
  · exact ⟨h0, ⟨h1, h2⟩, h3.R hw, h4⟩
  · exact ⟨h0, ⟨h1, h2⟩, h3.R hw, h4⟩
theorem St.rf (h : KI0 S z) (h0 : KIb S b z) : St S b z z := ⟨h0, h, Sk.rf⟩
theorem kb {o : Option (α × Zs)} {k : α → Zs → Option (β × Zs)} {Q : β → Zs → Prop} (h : Wp1 o fun _ => St S b σ0) (g : ∀ v z, St S b σ0 z → Wp1 (k v z) Q) : Wp1 (bq o k) Q := wp_q (wp_m h fun v z h => g v z h)
theorem kb0 {o : Option (α × Zs)} {k : α → Zs → Option (β × Zs)} {Q : β → Zs → Prop} (h : Wp1 o fun _ => St0 S σ0) (g : ∀ v z, St0 S σ0 z → Wp1 (k v z) Q) : Wp1 (bq o k) Q := wp_q (wp_m h fun v z h => g v z h)
theorem kR {o : Option (α × Zs)} {k : α → Zs → Option (β × Zs)} {v : α} {Q : β → Zs → Prop} (h : o = some (v, z)) (g : Wp1 (k v z) Q) : Wp1 (bq o k) Q := by rw [bq_e h]; exact g
theorem w0 {S c : Nat} (h : [258, 259, 260, 261, 262, 263, 192, 193, 194, 195, 196, 197, 198, 199, 201, 202, 203, 204, 205, 1224].contains c = true) : wK S c 0 = true := by
  unfold wK; rw [h]; rfl
theorem wS {S c : Nat} (h : [0, 1, 2, 3, 321, 323, 326, 448, 449, 450, 453, 454, 455, 456, 1348, 1349, 1475, 1476, 1481, 1482, 1483].contains c = true) : wK S c S = true := by
  unfold wK; rw [h]; simp
-- an error
theorem St.rep (h : St S b σ0 z) (k : zI z 192 0 0 0 = 0) {x y : Int32} (hx : x ≠ 0) : St S b σ0 (sI (sI z 192 0 0 0 x) 193 0 0 0 y) := by
  obtain ⟨h0, h1, h2, h3, h4⟩ := h
  obtain ⟨g1, g2, g3, g4, g5, g6, g7, g8, g9, _⟩ := h1
  refine ⟨fun q => absurd q hx, ⟨g1, g2, g3, g4, g5, g6, g7, g8, g9, fun q => absurd q hx⟩, (h2.I (w0 rfl)).I (w0 rfl), fun q => absurd ((h3 q).1.symm.trans k) q, h4⟩
theorem k_report (h : St S b σ0 z) {x y : Int32} (hx : x ≠ 0) : Wp1 (fX3_report x y z) fun _ => St S b σ0 := by
  unfold fX3_report
  by_cases k : zI z 192 0 0 0 = 0
  · rw [if_pos k, lt_k, lt_k]; exact h.rep k hx
  · rw [if_neg k]; exact h
/-- only with no error -/
theorem k_if {o : Option (Unit × Zs)} (h : St S b σ0 z) (g : zI z 192 0 0 0 = 0 → Wp1 o fun _ => St S b σ0) : Wp1 (if zI z 192 0 0 0 = 0 then o else some ((), z)) fun _ => St S b σ0 := by
  by_cases k : zI z 192 0 0 0 = 0
  · rw [if_pos k]; exact g k
  · rw [if_neg k]; exact h
theorem St.s5 (h : St S 0 σ0 z) (k : zI z 192 0 0 0 = 0) : (zR z 195 0 0 0).1 = S := ((h.1 k).2.1 rfl).1
theorem St.s6 (h : St S 1 σ0 z) (k : zI z 192 0 0 0 = 0) : (zR z 196 0 0 0).1 = S := ((h.1 k).2.2 rfl).1
theorem St.s4 (h : St S b σ0 z) : (zR z 194 0 0 0).1 = S := by rw [h.2.1.1]
theorem k_startWork (h : St S 0 σ0 z) {x y : Int32} : Wp1 (fX3_startWork x y z) fun _ => St S 0 σ0 := by
  unfold fX3_startWork
  refine k_if h fun k => ?_
  rw [lt_k, lt_k, h.s5 k]
  exact (h.I (wS rfl) rfl).I (w0 rfl) rfl
theorem k_setPart (h : St S b σ0 z) {s : Nat} {x y : Int32} : Wp1 (fX7_setPart S s x y z) fun _ => St S b σ0 := by
  unfold fX7_setPart
  by_cases q1 : x < 0
  · rw [if_pos q1]; exact h
  · rw [if_neg q1]
    by_cases q2 : (6 : Int32) ≤ x
    · rw [if_pos q2]; exact h
    · rw [if_neg q2]
      rcases i32_c x with q | ⟨a, ha, rfl⟩
      · exact absurd q q1
      · rw [i_6, n_le (by omega) (by omega)] at q2
        rw [if_pos ((n_gi ha).mpr (by omega)), lt_k]
        exact h.I (wS rfl) rfl
theorem k_setCode (h : St S b σ0 z) {s : Nat} {x y y2 : Int32} : Wp1 (fX7_setCode S s x y y2 z) fun _ => St S b σ0 := by
  unfold fX7_setCode
  by_cases q1 : x < 0
  · rw [if_pos q1]; exact h
  · rw [if_neg q1]
    by_cases q2 : (6 : Int32) ≤ x
    · rw [if_pos q2]; exact h
    · rw [if_neg q2]
      rcases i32_c x with q | ⟨a, ha, rfl⟩
      · exact absurd q q1
      · rw [i_6, n_le (by omega) (by omega)] at q2
        have g : gi (nI a) 6 := (n_gi ha).mpr (by omega)
        rw [if_pos g, lt_k, if_pos g, lt_k]
        exact (h.I (wS rfl) rfl).I (wS rfl) rfl
/-- a column, a stream that is looked for -/
theorem col_C {p s W : Nat} {w : Int64} {σ : Zs} (hW : W ≤ 6) (h : zI σ 450 p s 0 = nI W) : fX7_columnNamed p s w σ = some (nix (fun c => zJ σ 1475 p s c) w W 0, σ) := by
  have l : ∀ (k y n : Nat), y + k = W → k < n → fX7_columnNamed_2 p s w n (nI y) σ = some (nix (fun c => zJ σ 1475 p s c) w k y, σ) := by
    intro k
    induction k with
    | zero =>
      intro y n h1 h2
      obtain ⟨n, rfl⟩ : ∃ j, n = j + 1 := ⟨n - 1, by omega⟩
      rw [fX7_columnNamed_2, h, if_pos ((n_le (by omega) (by omega)).mpr (by omega))]
      rfl
    | succ k ih =>
      intro y n h1 h2
      obtain ⟨n, rfl⟩ : ∃ j, n = j + 1 := ⟨n - 1, by omega⟩
      rw [fX7_columnNamed_2, h, if_neg (fun z => by have := (n_le (by omega) (by omega)).mp z; omega), i_6, if_neg (fun z => by have := (n_le (by omega) (by omega)).mp z; omega), if_pos ((n_gi (by omega)).mpr (by omega)), n_cl (by omega)]
      unfold nix
      by_cases e : zJ σ 1475 p s y = w
      · rw [if_pos (l_cmp0.mpr e), if_pos e]
      · rw [if_neg (fun q => e (l_cmp0.mp q)), if_neg e, i_1, n_add]
        exact ih (y + 1) n (by omega) (by omega)
  exact l W 0 FU (by omega) (by unfold FU; omega)
theorem nix_r {f : Nat → Int64} {w : Int64} {k : Nat} : nix f w k 0 = -nI 1 ∨ ∃ j, j < k ∧ nix f w k 0 = nI j := by
  rcases nix_s (f := f) (w := w) k 0 with ⟨e, _⟩ | ⟨j, _, hj, _, e, _⟩
  · exact Or.inl e
  · exact Or.inr ⟨j, by omega, e⟩
theorem kq_col (h : KI0 S z) (p s : Nat) (w : Int64) : ∃ v, fX7_columnNamed p s w z = some (v, z) ∧ (v = -nI 1 ∨ ∃ j, j < 6 ∧ v = nI j) := by
  obtain ⟨W, h1, h2⟩ := h.2.2.2.2.2.1 p s
  refine ⟨_, col_C h1 h2, ?_⟩
  rcases nix_r (f := fun c => zJ z 1475 p s c) (w := w) (k := W) with e | ⟨j, hj, e⟩
  · exact Or.inl e
  · exact Or.inr ⟨j, by omega, e⟩
theorem k_str (h : KI0 S z) (w : Int64) : ∃ v, fX5_streamNamed S w z = some (v, z) ∧ (v = -nI 1 ∨ ∃ j, j < 12 ∧ v = nI j) := by
  obtain ⟨n, h1, h2⟩ := h.2.1
  refine ⟨_, name_C h1 h2, ?_⟩
  rcases nix_r (f := fun s => zJ z 448 S s 0) (w := w) (k := n) with e | ⟨j, hj, e⟩
  · exact Or.inl e
  · exact Or.inr ⟨j, by omega, e⟩
theorem k_nameStream (h : St S 0 σ0 z) (k : zI z 192 0 0 0 = 0) {w : Int64} {y : Int32} : Wp1 (fX3_nameStream w y z) fun _ => St S 0 σ0 := by
  unfold fX3_nameStream
  rw [h.s4]
  obtain ⟨v, h1, h2⟩ := k_str h.2.1 w
  rw [bq_e h1]
  by_cases q : v < 0
  · rw [if_pos q, lt_k, lt_k, h.s5 k]
    exact (h.J (wS rfl)).I (w0 rfl) rfl
  · rw [if_neg q]
    unfold fX3_report
    rw [if_pos k]
    simp only [lt_k, bq_s]
    have e : (zR (sI (sI z 192 0 0 0 5) 193 0 0 0 y) 195 0 0 0).1 = S := h.s5 k
    rw [e]
    exact ((h.rep k (by decide)).J (wS rfl)).I (w0 rfl) rfl
theorem St.w201 (h : St S b σ0 z) {n : Nat} (hn : n ≤ 1500) : St S b σ0 (sI z 201 0 0 0 (nI n)) := by
  obtain ⟨h0, ⟨h1, h2, h3, h4, h5, h6, h7⟩, h8, h9⟩ := h
  exact ⟨h0, ⟨h1, h2, h3, h4, ⟨n, hn, rfl⟩, h6, h7⟩, h8.I (w0 rfl), h9⟩
theorem k_addColumn0 (h : St S b σ0 z) {w : Int64} : Wp1 (fX3_addColumn w z) fun _ z' => St S b σ0 z' ∧ zI z' 192 0 0 0 = zI z 192 0 0 0 := by
  obtain ⟨W, h1, h2⟩ := h.2.1.2.2.2.2.1
  have e : Wp1 (fX3_addColumn_38 w z) fun _ z' => St S b σ0 z' ∧ zI z' 192 0 0 0 = zI z 192 0 0 0 := by
    unfold fX3_addColumn_38
    rw [h2, i_1500]
    by_cases q : 1500 ≤ W
    · rw [if_pos ((n_le (by omega) (by omega)).mpr q)]; exact ⟨h, rfl⟩
    · rw [if_neg (fun z => q ((n_le (by omega) (by omega)).mp z)), if_pos ((n_gi (by omega)).mpr (by omega)), lt_k, lt_k, n_cl (by omega)]
      have e2 : zI (sJ z 1224 0 0 W w) 201 0 0 0 = nI W := h2
      rw [e2, i_1, n_add]
      exact ⟨(h.J (w0 rfl)).w201 (by omega), rfl⟩
  have l : ∀ (k x n : Nat), x + k = W → k < n → Wp1 (fX3_addColumn_2 w n (nI x) z) fun _ z' => St S b σ0 z' ∧ zI z' 192 0 0 0 = zI z 192 0 0 0 := by
    intro k
    induction k with
    | zero =>
      intro x n h3 h4
      obtain ⟨n, rfl⟩ : ∃ j, n = j + 1 := ⟨n - 1, by omega⟩
      rw [fX3_addColumn_2, h2, if_pos ((n_le (by omega) (by omega)).mpr (by omega))]
      exact e
    | succ k ih =>
      intro x n h3 h4
      obtain ⟨n, rfl⟩ : ∃ j, n = j + 1 := ⟨n - 1, by omega⟩
      rw [fX3_addColumn_2, h2, if_neg (fun z => by have := (n_le (by omega) (by omega)).mp z; omega), i_1500, if_neg (fun z => by have := (n_le (by omega) (by omega)).mp z; omega), if_pos ((n_gi (by omega)).mpr (by omega))]
      split
      · exact ⟨h, rfl⟩
      · rw [i_1, n_add]; exact ih (x + 1) n (by omega) (by omega)
  exact l W 0 FU (by omega) (by unfold FU; omega)
theorem k_addColumn (h : St S b σ0 z) {w : Int64} : Wp1 (fX3_addColumn w z) fun _ => St S b σ0 := wp_m (k_addColumn0 h) fun _ _ q => q.1
theorem k_nameColumn (h : St S b σ0 z) {w : Int64} {y : Int32} : Wp1 (fX3_nameColumn w y z) fun _ => St S b σ0 := by
  unfold fX3_nameColumn
  refine kb (k_addColumn h) fun _ _ h => ?_
  split
  · exact kb (k_report h (by decide)) fun _ _ h => h
  · exact h
theorem k_copyColumns (h : St S b σ0 z) (p s : Nat) : Wp1 (fX7_copyColumns p s z) fun v z' => St S b σ0 z' ∧ ∃ w, w ≤ 6 ∧ v = nI w := by
  obtain ⟨W, h1, h2⟩ := h.2.1.2.2.2.2.2.1 p s
  have l : ∀ (k x n : Nat) (z : Zs), x + k = W → k < n → St S b σ0 z → zI z 450 p s 0 = nI W → Wp1 (fX7_copyColumns_2 p s n (nI x) z) fun v z' => St S b σ0 z' ∧ ∃ w, w ≤ 6 ∧ v = nI w := by
    intro k
    induction k with
    | zero =>
      intro x n z h3 h4 h h2
      obtain ⟨n, rfl⟩ : ∃ j, n = j + 1 := ⟨n - 1, by omega⟩
      rw [fX7_copyColumns_2, h2, if_pos ((n_le (by omega) (by omega)).mpr (by omega))]
      exact ⟨h, W, h1, rfl⟩
    | succ k ih =>
      intro x n z h3 h4 h h2
      obtain ⟨n, rfl⟩ : ∃ j, n = j + 1 := ⟨n - 1, by omega⟩
      rw [fX7_copyColumns_2, h2, if_neg (fun z => by have := (n_le (by omega) (by omega)).mp z; omega), i_1500, if_neg (fun z => by have := (n_le (by omega) (by omega)).mp z; omega), i_6, if_neg (fun z => by have := (n_le (by omega) (by omega)).mp z; omega), if_pos ((n_gi (by omega)).mpr (by omega)), if_pos ((n_gi (by omega)).mpr (by omega)), lt_k, i_1, n_add]
      exact ih (x + 1) n _ (by omega) (by omega) (h.J (w0 rfl)) h2
  exact l W 0 FU z (by omega) (by unfold FU; omega) h h2
theorem k_setFirstInput (h : St S b σ0 z) (hb : b ≤ 1) (k : zI z 192 0 0 0 = 0) {w : Int64} {y : Int32} : Wp1 (fX3_setFirstInput w y z) fun _ => St S b σ0 := by
  unfold fX3_setFirstInput
  rw [h.s4]
  obtain ⟨v, h1, h2⟩ := k_str h.2.1 w
  rw [bq_e h1]
  rcases h2 with rfl | ⟨j, hj, rfl⟩
  · rw [if_neg (by decide)]
    exact kb (k_report h (by decide)) fun _ _ h => h
  · rw [if_pos (by rw [i_0, n_le (by omega) (by omega)]; omega), if_pos ((n_gi (by omega)).mpr hj), h.s4, lt_k]
    have hR : St S b σ0 (sR z 198 0 0 0 (S, Int32.toNatClampNeg (nI j))) := h.R (w0 rfl) (Or.inl rfl)
    have e97 : zI (sR z 198 0 0 0 (S, Int32.toNatClampNeg (nI j))) 197 0 0 0 = nI b := (h.1 k).1
    rw [e97]
    have hb' : b = 0 ∨ b = 1 := by omega
    rcases hb' with rfl | rfl
    · have e5 : (zR (sR z 198 0 0 0 (S, Int32.toNatClampNeg (nI j))) 195 0 0 0).1 = S := h.s5 k
      rw [if_pos (by rfl), if_pos (by decide), lt_k, e5]
      have hI := hR.I (c := 1476) (s := (zR (sR z 198 0 0 0 (S, Int32.toNatClampNeg (nI j))) 195 0 0 0).2) (i := Int32.toNatClampNeg 0) (v := nI j) (wS rfl) rfl
      split
      · exact hI
      · split
        · exact hI
        · refine wp_q (wp_m (k_copyColumns hI _ _) fun v z' q => ?_)
          obtain ⟨q1, w, q2, rfl⟩ := q
          rw [lt_k]
          exact q1.w201 (by omega)
    · have e6 : (zR (sR z 198 0 0 0 (S, Int32.toNatClampNeg (nI j))) 196 0 0 0).1 = S := h.s6 k
      rw [if_neg (by decide), lt_k, e6]
      exact hR.I (wS rfl) rfl
theorem k_setSecondInput (h : St S 0 σ0 z) (k : zI z 192 0 0 0 = 0) {w : Int64} {y : Int32} : Wp1 (fX3_setSecondInput w y z) fun _ => St S 0 σ0 := by
  unfold fX3_setSecondInput
  rw [h.s4]
  obtain ⟨v, h1, h2⟩ := k_str h.2.1 w
  rw [bq_e h1]
  rcases h2 with rfl | ⟨j, hj, rfl⟩
  · rw [if_neg (by decide)]
    exact kb (k_report h (by decide)) fun _ _ h => h
  · rw [if_pos (by rw [i_0, n_le (by omega) (by omega)]; omega), if_pos ((n_gi (by omega)).mpr hj), h.s4, lt_k, if_pos (by decide), lt_k, lt_k]
    have e5 : (zR (sR z 199 0 0 0 (S, Int32.toNatClampNeg (nI j))) 195 0 0 0).1 = S := h.s5 k
    rw [e5]
    exact (((h.R (w0 rfl) (Or.inr rfl)).I (wS rfl) rfl)).I (w0 rfl) rfl
theorem k_setKey_48 (h : St S 0 σ0 z) {w : Int64} {y v : Int32} {s : Nat} : Wp1 (fX3_setKey_48 w y v S s z) fun _ => St S 0 σ0 := by
  unfold fX3_setKey_48
  rw [lt_k]
  have h1 : St S 0 σ0 (sI z 454 S s 0 v) := h.I (wS rfl) rfl
  split
  · exact kb (k_report h1 (by decide)) fun _ _ h => h
  · split
    · split
      · refine kb (k_addColumn h1) fun _ _ h => ?_
        split
        · exact kb (k_report h (by decide)) fun _ _ h => h
        · refine kb (k_addColumn h) fun _ _ h => ?_
          split
          · exact kb (k_report h (by decide)) fun _ _ h => h
          · exact h
      · exact h1
    · exact kb (k_report h1 (by decide)) fun _ _ h => h
theorem k_setKey (h : St S 0 σ0 z) (k : zI z 192 0 0 0 = 0) {w : Int64} {y : Int32} : Wp1 (fX3_setKey w y z) fun _ => St S 0 σ0 := by
  unfold fX3_setKey
  obtain ⟨v, h1, _⟩ := kq_col h.2.1 (zR z 198 0 0 0).1 (zR z 198 0 0 0).2 w
  rw [bq_e h1, lt_k, h.s5 k]
  have hI : St S 0 σ0 (sI z 453 S (zR z 195 0 0 0).2 0 v) := h.I (wS rfl) rfl
  have e5 : (zR (sI z 453 S (zR z 195 0 0 0).2 0 v) 195 0 0 0).1 = S := h.s5 k
  split
  · obtain ⟨v2, h2, _⟩ := kq_col hI.2.1 (zR (sI z 453 S (zR z 195 0 0 0).2 0 v) 199 0 0 0).1 (zR (sI z 453 S (zR z 195 0 0 0).2 0 v) 199 0 0 0).2 w
    rw [bq_e h2, e5]
    exact k_setKey_48 hI
  · rw [e5]
    exact k_setKey_48 hI
theorem k_pickColumn (h : St S 0 σ0 z) (k : zI z 192 0 0 0 = 0) {w : Int64} {y : Int32} : Wp1 (fX3_pickColumn w y z) fun _ => St S 0 σ0 := by
  unfold fX3_pickColumn
  obtain ⟨v, h1, _⟩ := kq_col h.2.1 (zR z 198 0 0 0).1 (zR z 198 0 0 0).2 w
  rw [bq_e h1]
  split
  · refine wp_q (wp_m (k_addColumn0 h) fun v z' q => ?_)
    obtain ⟨q1, q2⟩ := q
    split
    · exact kb (k_report q1 (by decide)) fun _ _ h => h
    · rw [q1.s5 (q2.trans k)]
      exact kb (k_setPart q1) fun _ _ h => h
  · exact kb (k_report h (by decide)) fun _ _ h => h
theorem k_lookAtName (h : St S b σ0 z) (hb : b ≤ 1) {x : Int32} (hx : x = 2 ∨ b = 0) {w : Int64} {y : Int32} : Wp1 (fX3_lookAtName x w y z) fun _ => St S b σ0 := by
  unfold fX3_lookAtName
  refine k_if h fun k => ?_
  rcases hx with rfl | rfl
  · rw [if_neg (by decide), if_neg (by decide), if_pos rfl]
    exact kb (k_setFirstInput h hb k) fun _ _ h => h
  · split
    · exact kb (k_nameStream h k) fun _ _ h => h
    · split
      · exact kb (k_nameColumn h) fun _ _ h => h
      · split
        · exact kb (k_setFirstInput h hb k) fun _ _ h => h
        · split
          · exact kb (k_setSecondInput h k) fun _ _ h => h
          · split
            · exact kb (k_setKey h k) fun _ _ h => h
            · split
              · exact kb (k_pickColumn h k) fun _ _ h => h
              · exact h
theorem k_lookAtRange (h : St S 0 σ0 z) {x : Int32} {w : Int64} {y : Int32} : Wp1 (fX3_lookAtRange x w y z) fun _ => St S 0 σ0 := by
  have e : zI z 192 0 0 0 = 0 → ∀ u : Int64, Wp1 (fX3_lookAtRange_20 x w y u z) fun _ => St S 0 σ0 := by
    intro k u
    unfold fX3_lookAtRange_20
    rw [h.s5 k]
    split
    · exact kb (k_report h (by decide)) fun _ _ h => h
    · split
      · split
        · rw [lt_k]; exact h.I (wS rfl) rfl
        · rw [lt_k]; exact h.I (wS rfl) rfl
      · exact kb (k_report h (by decide)) fun _ _ h => h
  unfold fX3_lookAtRange
  refine k_if h fun k => ?_
  split
  · exact e k _
  · exact e k _
theorem k_setTotal (h : St S 0 σ0 z) {x : Int32} : Wp1 (fX3_setTotal x z) fun _ => St S 0 σ0 := by
  unfold fX3_setTotal
  refine k_if h fun k => ?_
  rw [h.s5 k]
  exact kb (k_setPart h) fun _ _ h => h
theorem k_startExpression (h : St S b σ0 z) : Wp1 (fX3_startExpression z) fun _ => St S b σ0 := by
  unfold fX3_startExpression
  rw [lt_k]
  exact h.I (w0 rfl) rfl
theorem k_endExpression (h : St S b σ0 z) (hb : b ≤ 1) : Wp1 (fX3_endExpression z) fun _ => St S b σ0 := by
  unfold fX3_endExpression
  refine k_if h fun k => ?_
  rw [(h.1 k).1]
  have hb' : b = 0 ∨ b = 1 := by omega
  rcases hb' with rfl | rfl
  · rw [if_pos (by rfl), h.s5 k]
    split
    · exact kb (k_setCode h) fun _ _ h => h
    · exact kb (k_setCode h) fun _ _ h => h
  · have e6 : ∀ v, (zR (sI z 2 S (zR z 196 0 0 0).2 0 v) 196 0 0 0).1 = S := fun _ => h.s6 k
    rw [if_neg (by decide), lt_k, lt_k, h.s6 k, e6]
    exact (h.I (wS rfl) rfl).I (wS rfl) rfl
theorem St.w326 (h : St S b σ0 z) {n : Nat} (hn : n ≤ 1500) : St S b σ0 (sI z 326 S 0 0 (nI n)) := by
  obtain ⟨h0, ⟨h1, h2, h3, h4, h7⟩, h8, h9⟩ := h
  refine ⟨h0, ⟨h1, h2, h3, ⟨n, hn, ?_⟩, h7⟩, h8.I (wS rfl), h9⟩
  rw [zI_sI, if_pos ⟨rfl, rfl, rfl, rfl⟩]
theorem k_emit5 (h : St S b σ0 z) {x : Int32} {w : Int64} : Wp1 (fX5_emit S x w z) fun _ => St S b σ0 := by
  unfold fX5_emit
  obtain ⟨L, h1, h2⟩ := h.2.1.2.2.2.1
  rw [h2, i_1500]
  by_cases q : 1500 ≤ L
  · rw [if_pos ((n_le (by omega) (by omega)).mpr q)]; exact h
  · have g : gi (nI L) 1500 := (n_gi (by omega)).mpr (by omega)
    have f1 : ∀ v, zI (sI z 1348 S 0 L v) 326 S 0 0 = nI L := fun _ => h2
    have f2 : ∀ v u, zI (sJ (sI z 1348 S 0 L v) 1349 S 0 L u) 326 S 0 0 = nI L := fun _ _ => h2
    rw [if_neg (fun z => q ((n_le (by omega) (by omega)).mp z)), if_pos g, n_cl (by omega), lt_k, f1, if_pos g, n_cl (by omega), lt_k, f2, lt_k, i_1, n_add]
    exact ((h.I (wS rfl) rfl).J (wS rfl)).w326 (by omega)
theorem k_emit (h : St S b σ0 z) {x : Int32} {w : Int64} : Wp1 (fX3_emit x w z) fun _ => St S b σ0 := by
  unfold fX3_emit
  refine k_if h fun _ => ?_
  rw [h.s4]
  exact kb (k_emit5 h) fun _ _ h => h
theorem k_useColumn (h : St S b σ0 z) {w : Int64} {y : Int32} : Wp1 (fX3_useColumn w y z) fun _ => St S b σ0 := by
  unfold fX3_useColumn
  refine k_if h fun _ => ?_
  obtain ⟨v, h1, _⟩ := kq_col h.2.1 (zR z 198 0 0 0).1 (zR z 198 0 0 0).2 w
  rw [bq_e h1]
  split
  · rw [h.s4]
    exact kb (k_emit5 h) fun _ _ h => h
  · exact kb (k_report h (by decide)) fun _ _ h => h
theorem k_endFunction (h : St S b σ0 z) {x y u : Int32} : Wp1 (fX3_endFunction x y u z) fun _ => St S b σ0 := by
  have e : ∀ a c : Int32, Wp1 (fX3_endFunction_21 x y u a c z) fun _ => St S b σ0 := by
    intro a c
    unfold fX3_endFunction_21
    split
    · rw [h.s4]
      exact kb (k_emit5 h) fun _ _ h => h
    · exact kb (k_report h (by decide)) fun _ _ h => h
  unfold fX3_endFunction
  refine k_if h fun _ => ?_
  split
  · exact e _ _
  · exact e _ _
end KP
