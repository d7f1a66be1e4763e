/-! STEPS LOOK AT NEW ROWS -/
def cls (M : Nat) (X : Dk) : Dk := sWn (sRw X (clL (kW X).2 (kW X).1 M 60 (fun _ => false) (kR X).1 (kR X).2).2) (rmg M (kW X).1 0 0 (kW X).2)
def spA (lim : Nat) (X : Dk) (r : Rw) : Dk := if lN lim < r.2.2 then sA X ((kA X).1 + 1, pushF (kA X).1 (kA X).2 r) else X
def spB (lim : Nat) (X : Dk) (r : Rw) : Dk := if lN lim < r.2.2 then X else sB X ((kB X).1 + 1, pushF (kB X).1 (kB X).2 r)
/-- a row comes to w, whose mark is M -/
def spW (n M : Nat) (X : Dk) (r : Rw) : Dk := if M ≤ r.1 / n * n + n then sWn X (wnk (kW X).1 (kW X).2 r.2.1 (r.1 / n * n + n) r.2.2) else sH X ((kH X).1 + 1, pushF (kH X).1 (kH X).2 (true, r))
section PCK
variable {f : Nat → Wn} {c : Nat → Bool} {M : Nat}
/-- the best so far -/
def Bst (f : Nat → Wn) (c : Nat → Bool) (M b y : Nat) : Prop := (b ≠ 0 → c (b - 1) = false ∧ (f (b - 1)).2.1 < M ∧ b - 1 < y) ∧ ∀ i, i < y → c i = false → (f i).2.1 < M → b ≠ 0 ∧ (f (b - 1)).2.1 ≤ (f i).2.1
theorem pck_b : ∀ (m b y : Nat), Bst f c M b y → Bst f c M (pck f c M m b y) (y + m)
  | 0, b, y, h => h
  | m + 1, b, y, h => by
    obtain ⟨h1, h2⟩ := h
    rw [show y + (m + 1) = y + 1 + m by omega]
    by_cases q : c y = true ∨ M ≤ (f y).2.1 ∨ (b ≠ 0 ∧ ahd (f y) (f (b - 1)) = false)
    · rw [show pck f c M (m + 1) b y = pck f c M m b (y + 1) from if_pos q]
      refine pck_b m b (y + 1) ⟨fun w => ?_, fun i hi hc hM => ?_⟩
      · obtain ⟨g1, g2, g3⟩ := h1 w
        exact ⟨g1, g2, by omega⟩
      · by_cases e : i = y
        · subst e
          rcases q with q | q | q
          · rw [hc] at q; cases q
          · omega
          · refine ⟨q.1, ?_⟩
            have q2 := q.2
            unfold ahd at q2
            simp only [Bool.or_eq_false_iff, decide_eq_false_iff_not] at q2
            omega
        · exact h2 i (by omega) hc hM
    · rw [show pck f c M (m + 1) b y = pck f c M m (y + 1) (y + 1) from if_neg q]
      have q1 : c y = false := by cases e : c y with | false => rfl | true => exact absurd (Or.inl e) q
      have q2 : (f y).2.1 < M := by
        by_cases e : M ≤ (f y).2.1
        · exact absurd (Or.inr (Or.inl e)) q
        · omega
      refine pck_b m (y + 1) (y + 1) ⟨fun _ => ⟨by rw [Nat.add_sub_cancel]; exact q1, by rw [Nat.add_sub_cancel]; exact q2, by omega⟩, fun i hi hc hM => ⟨by omega, ?_⟩⟩
      rw [Nat.add_sub_cancel]
      by_cases e : i = y
      · rw [e]; exact Nat.le_refl _
      · obtain ⟨g1, g2⟩ := h2 i (by omega) hc hM
        by_cases q3 : ahd (f y) (f (b - 1)) = false
        · exact absurd (Or.inr (Or.inr ⟨g1, q3⟩)) q
        · unfold ahd at q3
          simp only [Bool.or_eq_false_iff, Bool.and_eq_false_iff, decide_eq_false_iff_not] at q3
          omega
theorem pck_0 (k : Nat) : Bst f c M (pck f c M k 0 0) k := by
  have := pck_b (f := f) (c := c) (M := M) k 0 0 ⟨fun w => absurd rfl w, fun i hi => absurd hi (by omega)⟩
  rwa [Nat.zero_add] at this
/-- what closes lies below the mark -/
theorem clL_c {k : Nat} : ∀ (m : Nat) (c : Nat → Bool) (r : Nat) (g : Nat → Wn), (∀ i, i < k → M ≤ (f i).2.1 → c i = false) → ∀ i, i < k → M ≤ (f i).2.1 → (clL f k M m c r g).1 i = false
  | 0, c, r, g, h => h
  | m + 1, c, r, g, h => by
    unfold clL
    split
    · exact h
    · rename_i q
      refine clL_c m _ _ _ (fun i hi hM => ?_)
      obtain ⟨g1, g2, g3⟩ := (pck_0 (f := f) (c := c) (M := M) k).1 q
      rw [pushF_n (fun e => by rw [e] at hM; omega)]
      exact h i hi hM
end PCK
section LOK
variable {o z : Zs} {lim n e1 e2 e3 m1 m2 m3 : Nat} {X : Dk}
theorem Dc.ws {c : Nat → Bool} {y : Zs} {p : Nat × (Nat → Wn)} (h : Dc o c lim n X e1 e2 e3 m1 m2 m3 z) (k : Ot winl z y) (hw : Ws y p.1 p.2 (fun _ => false)) : Dx o lim n (sWn X p) e1 e2 e3 m1 m2 m3 y := by
  obtain ⟨p, sc, ⟨t0, t1, t2, t3⟩, w, hh, ⟨a0, a1, a2, a3⟩, ⟨b1, b2, b3⟩, c0, c1, c2⟩ := h
  exact ⟨p.ot k rfl, sc.ot k rfl, ⟨t0.ot k rfl, t1.ot k rfl, t2.ot k rfl, t3.ot k rfl⟩, hw, hh.ot k rfl, ⟨(k.I rfl).trans a0, (k.I rfl).trans a1, (k.I rfl).trans a2, (k.I rfl).trans a3⟩, ⟨(k.I rfl).trans b1, (k.I rfl).trans b2, (k.I rfl).trans b3⟩, (k.I rfl).trans c0, (k.I rfl).trans c1, (k.I rfl).trans c2⟩
theorem cls_C (h : Dx o lim n X e1 e2 e3 m1 m2 m3 z) (hk : (kW X).1 ≤ 60) (hn : 0 < n) (hB : ∀ i, i < (kW X).1 → n ≤ ((kW X).2 i).2.1 ∧ ((kW X).2 i).2.1 < 1073741824) (hM : m3 < 1073741824) (hR : (kR X).1 ≤ 140) : ∃ x d, fX1_closeWindows 3 2 3 z = some ((), x) ∧ Dx o lim n (cls m3 X) e1 e2 e3 m1 m2 m3 x ∧ zI x 70 0 0 0 = zI z 70 0 0 0 + nI d ∧ d ≤ 60 := by
  obtain ⟨x, d, d1, d2, d3, d4⟩ := cl_C hk hn hB hM 60 0 FU z (fun _ => false) (kR X) (by omega) (by decide) (by omega) h
  have hc := clL_c (f := (kW X).2) (M := m3) (k := (kW X).1) 60 (fun _ => false) (kR X).1 (kR X).2 (fun _ _ _ => rfl)
  have hW : Ws x (kW X).1 (kW X).2 (clL (kW X).2 (kW X).1 m3 60 (fun _ => false) (kR X).1 (kR X).2).1 := d1.2.2.2.1
  obtain ⟨y, y1, y2, y3⟩ := rmg_C hk hM (kW X).1 0 0 FU x (kW X).2 (clL (kW X).2 (kW X).1 m3 60 (fun _ => false) (kR X).1 (kR X).2).1 (by omega) (by have : FU = 20000 := rfl; omega) (Nat.le_refl _) hW.1 (fun i hi => absurd hi (by omega)) (fun i _ hi => ⟨hW.2 i hi, (hB i hi).2, hc i hi⟩)
  refine ⟨y, d, ?_, d1.ws y2 y3, (y2.I rfl).trans d2, d3⟩
  unfold fX1_closeWindows
  rw [show (0 : Int32) = nI 0 from rfl, d4, bq_e (show fX10_removeGone 2 3 (wmI m3) 0 x = some ((), y) from y1)]
theorem row_in {c : Nat → Bool} {i : Nat} (h : Dc o c lim n X e1 e2 e3 m1 m2 m3 z) (hS : (kS X).1 ≤ 200) (hi : i < (kS X).1) : ∃ x, fX8_copyTo 2 0 (nI i) 0 0 z = some ((), x) ∧ Ot [(384, 0), (385, 0), (1410, 0)] z x ∧ Rr x 0 0 ((kS X).2 i) := by
  obtain ⟨a1, a2, a3, a4⟩ := h.2.2.1.1
  refine ⟨_, tab_copy (w := 2) hS hi (by decide) a1 a2, Ot.row (p := 0) rfl, ?_, ?_, ?_, ?_⟩
  · rw [zI_wRow, if_pos ⟨rfl, rfl, rfl, rfl⟩]; exact a3 i hi
  · rw [zI_wRow, if_neg (fun q => absurd q.1 (by decide)), if_pos ⟨rfl, rfl, rfl, rfl⟩]
  · rw [zJ_wRow, if_pos ⟨rfl, rfl, rfl⟩, if_pos (by decide)]; exact a4 i 0 hi (by decide)
  · rw [zJ_wRow, if_pos ⟨rfl, rfl, rfl⟩, if_pos (by decide)]; exact a4 i 1 hi (by decide)
theorem row_out {r : Rw} (h : Rr z 0 0 r) : ∃ x, fX6_copyFrom 2 0 0 0 z = some ((), x) ∧ Ot [(384, 2), (385, 2), (1410, 2)] z x ∧ Rr x 0 0 r ∧ Rr x 2 0 r := by
  obtain ⟨a1, a2, a3, a4⟩ := h
  have k : Ot [(384, 2), (385, 2), (1410, 2)] z (wRow z 2 0 (zI z 384 0 0 0) (zI z 385 0 0 0) (fun j => if j < 6 then zJ z 1410 0 0 j else zJ z 1410 2 0 j)) := Ot.row (p := 2) rfl
  refine ⟨_, row_copy (by decide), k, ⟨(k.I rfl).trans a1, (k.I rfl).trans a2, (k.J rfl).trans a3, (k.J rfl).trans a4⟩, ?_, ?_, ?_, ?_⟩
  · rw [zI_wRow, if_pos ⟨rfl, rfl, rfl, rfl⟩]; exact a1
  · rw [zI_wRow, if_neg (fun q => absurd q.1 (by decide)), if_pos ⟨rfl, rfl, rfl, rfl⟩]; exact a2
  · rw [zJ_wRow, if_pos ⟨rfl, rfl, rfl⟩, if_pos (by decide)]; exact a3
  · rw [zJ_wRow, if_pos ⟨rfl, rfl, rfl⟩, if_pos (by decide)]; exact a4
theorem nn_e {α : Type} {a : Option α} {b : Nat × Nat → Option α} {q : Nat × Nat} : nn (some q) a b = b q := rfl
theorem fu_2 : ∃ k, FU = k + 1 + 1 := ⟨19998, rfl⟩
theorem in_1 (hp : PF lim n z) : fX1_inputOf 2 1 0 z = some (some (2, 0), z) := by
  have a1 : zI z 1476 2 1 (Int32.toNatClampNeg 0) = 0 := hp.i1476_1_0
  unfold fX1_inputOf
  rw [if_pos (show gi 0 2 by decide), a1, if_neg (by decide), hp.r64, hp.i321_0_0, if_neg (by decide), if_pos (show gi 0 12 by decide)]
  rfl
theorem im_1 (hp : PF lim n z) : fX1_inputOf 2 1 1 z = some (none, z) := by
  have a1 : zI z 1476 2 1 (Int32.toNatClampNeg 1) = -1 := hp.i1476_1_1
  unfold fX1_inputOf
  rw [if_pos (show gi 1 2 by decide), a1, if_pos (by decide)]
theorem lm_1 (hp : PF lim n z) : fX1_lookAtNewRows 1 2 1 1 z = some ((), z) := by
  unfold fX1_lookAtNewRows
  rw [bq_e (im_1 hp)]
  rfl
theorem lw_1 (hp : PF lim n z) : fX1_leastWatermark 2 1 z = some (zI z 461 2 0 0, z) := by
  unfold fX1_leastWatermark
  rw [bq_e (in_1 hp)]
  show bq (fX1_inputOf 2 1 1 z) _ = _
  rw [bq_e (im_1 hp)]
  rfl
theorem in_2 (hp : PF lim n z) : fX1_inputOf 2 2 0 z = some (some (2, 0), z) := by
  have a1 : zI z 1476 2 2 (Int32.toNatClampNeg 0) = 0 := hp.i1476_2_0
  unfold fX1_inputOf
  rw [if_pos (show gi 0 2 by decide), a1, if_neg (by decide), hp.r64, hp.i321_0_0, if_neg (by decide), if_pos (show gi 0 12 by decide)]
  rfl
theorem im_2 (hp : PF lim n z) : fX1_inputOf 2 2 1 z = some (none, z) := by
  have a1 : zI z 1476 2 2 (Int32.toNatClampNeg 1) = -1 := hp.i1476_2_1
  unfold fX1_inputOf
  rw [if_pos (show gi 1 2 by decide), a1, if_pos (by decide)]
theorem lm_2 (hp : PF lim n z) : fX1_lookAtNewRows 2 2 2 1 z = some ((), z) := by
  unfold fX1_lookAtNewRows
  rw [bq_e (im_2 hp)]
  rfl
theorem lw_2 (hp : PF lim n z) : fX1_leastWatermark 2 2 z = some (zI z 461 2 0 0, z) := by
  unfold fX1_leastWatermark
  rw [bq_e (in_2 hp)]
  show bq (fX1_inputOf 2 2 1 z) _ = _
  rw [bq_e (im_2 hp)]
  rfl
theorem in_3 (hp : PF lim n z) : fX1_inputOf 2 3 0 z = some (some (2, 0), z) := by
  have a1 : zI z 1476 2 3 (Int32.toNatClampNeg 0) = 0 := hp.i1476_3_0
  unfold fX1_inputOf
  rw [if_pos (show gi 0 2 by decide), a1, if_neg (by decide), hp.r64, hp.i321_0_0, if_neg (by decide), if_pos (show gi 0 12 by decide)]
  rfl
theorem im_3 (hp : PF lim n z) : fX1_inputOf 2 3 1 z = some (none, z) := by
  have a1 : zI z 1476 2 3 (Int32.toNatClampNeg 1) = -1 := hp.i1476_3_1
  unfold fX1_inputOf
  rw [if_pos (show gi 1 2 by decide), a1, if_pos (by decide)]
theorem lm_3 (hp : PF lim n z) : fX1_lookAtNewRows 3 2 3 1 z = some ((), z) := by
  unfold fX1_lookAtNewRows
  rw [bq_e (im_3 hp)]
  rfl
theorem lw_3 (hp : PF lim n z) : fX1_leastWatermark 2 3 z = some (zI z 461 2 0 0, z) := by
  unfold fX1_leastWatermark
  rw [bq_e (in_3 hp)]
  show bq (fX1_inputOf 2 3 1 z) _ = _
  rw [bq_e (im_3 hp)]
  rfl
theorem look_1 (h : Dx o lim n X e1 e2 e3 m1 m2 m3 z) (he : e1 + 1 = (kS X).1) (hS : (kS X).1 ≤ 200) (hA : (kA X).1 < 200) : ∃ x, fX1_lookAtNewRows 1 2 1 0 z = some ((), x) ∧ Dx o lim n (spA lim X ((kS X).2 e1)) (kS X).1 e2 e3 m1 m2 m3 x ∧ zI x 70 0 0 0 = zI z 70 0 0 0 + (if lN lim < ((kS X).2 e1).2.2 then 1 else 0) := by
  obtain ⟨m, hm⟩ := fu_2
  obtain ⟨x1, c1, c2, c3⟩ := row_in (i := e1) h hS (by omega)
  have h1 : Dx o lim n X e1 e2 e3 m1 m2 m3 x1 := h.ot c2 rfl rfl
  obtain ⟨x2, d1, d2, d3, d4⟩ := row_out c3
  have h2 : Dx o lim n X e1 e2 e3 m1 m2 m3 x2 := h1.ot d2 rfl rfl
  obtain ⟨x3, r1, r2⟩ := ex_a (p := 0) (s := 0) h2.1
  have h3 : Dx o lim n X e1 e2 e3 m1 m2 m3 x3 := h2.ck r2
  have d5 : Rr x3 2 0 ((kS X).2 e1) := d4.ot r2 rfl
  have s70 : zI x3 70 0 0 0 = zI z 70 0 0 0 := ((r2.I rfl).trans (d2.I rfl)).trans (c2.I rfl)
  have h5 : zI x3 512 2 0 0 = nI (kS X).1 := h3.2.2.1.1.1
  have q1 : zI x2 1481 2 1 (Int32.toNatClampNeg 0) = nI 0 := h2.1.i1481_1_0
  have q2 : zI x2 1482 2 1 (Int32.toNatClampNeg 0) = nI 3 := h2.1.i1482_1_0
  have co : ∀ v : Int64, (v = 0 ∨ v = 1) → fX5_reckon 2 (nI 0) (nI 3) 0 0 x2 = some (v, x3) → fX1_comesOut 1 2 1 2 0 (nI e1) x1 = some (if v = 0 then 0 else 1, x3) := fun v hv hr => by
    unfold fX1_comesOut
    rw [h1.1.i449_1_0, if_pos rfl, bq_e d1, if_pos (show gi 0 6 by decide), if_pos (show gi 0 6 by decide), h2.1.r64, q1, q2, bq_e hr]
    rcases hv with rfl | rfl
    · rw [if_pos (by decide)]; rfl
    · rw [if_neg (by decide)]; rfl
  unfold fX1_lookAtNewRows
  rw [bq_e (in_1 h.1), nn_e, if_pos (show gi 0 2 by decide), show zI z 1486 2 1 (Int32.toNatClampNeg 0) = nI e1 from h.2.2.2.2.2.2.1.1, hm, fX1_lookAtNewRows_22, h.2.2.1.1.1, if_neg (fun q => absurd ((n_le (by omega) (by omega)).mp q) (by omega)), bq_e c1, h1.1.i449_1_0, if_neg (by decide)]
  rw [show zJ x2 1410 0 0 1 = _ from d3.2.2.2] at r1
  unfold spA
  by_cases q : lN lim < ((kS X).2 e1).2.2
  · rw [if_pos q] at r1 ⊢
    simp only [if_pos q]
    have h4 := ((h3.tA (p1 := 2) (s1 := 0) d5.1 d5.2.2.1 d5.2.2.2).s70 (v := zI x3 70 0 0 0 + 1)).n1 (m := (kS X).1)
    refine ⟨_, ?_, h4, ?_⟩
    · rw [bq_e (show _ = some ((1 : Int32), x3) from co 1 (Or.inr rfl) r1), if_neg (by decide), bq_e (show fX1_give 1 2 0 x3 = _ from give_o (s := 1) h3.1 (by decide) (by decide) hA h3.2.2.1.2.1.1), i_1, n_add, he, fX1_lookAtNewRows_22]
      rw [show zI (sI (addT x3 2 1 (kA X).1 2 0) 70 0 0 0 (zI x3 70 0 0 0 + nI 1)) 512 2 0 0 = nI (kS X).1 from h5, if_pos ((n_le (by omega) (by omega)).mpr (by omega)), if_pos (show gi 0 2 by decide), lt_k]
      rfl
    · rw [sI_c (by decide), zI_sI, if_pos ⟨rfl, rfl, rfl, rfl⟩, s70]
  · rw [if_neg q] at r1 ⊢
    simp only [if_neg q]
    have h4 := h3.n1 (m := (kS X).1)
    refine ⟨_, ?_, h4, ?_⟩
    · rw [bq_e (show _ = some ((0 : Int32), x3) from co 0 (Or.inl rfl) r1), if_pos rfl, i_1, n_add, he, fX1_lookAtNewRows_22]
      rw [h3.2.2.1.1.1, if_pos ((n_le (by omega) (by omega)).mpr (by omega)), if_pos (show gi 0 2 by decide), lt_k]
      rfl
    · rw [sI_c (by decide), s70]
      exact (Int32.add_zero _).symm
theorem look_2 (h : Dx o lim n X e1 e2 e3 m1 m2 m3 z) (he : e2 + 1 = (kS X).1) (hS : (kS X).1 ≤ 200) (hA : (kB X).1 < 200) : ∃ x, fX1_lookAtNewRows 2 2 2 0 z = some ((), x) ∧ Dx o lim n (spB lim X ((kS X).2 e2)) e1 (kS X).1 e3 m1 m2 m3 x ∧ zI x 70 0 0 0 = zI z 70 0 0 0 + (if lN lim < ((kS X).2 e2).2.2 then 0 else 1) := by
  obtain ⟨m, hm⟩ := fu_2
  obtain ⟨x1, c1, c2, c3⟩ := row_in (i := e2) h hS (by omega)
  have h1 : Dx o lim n X e1 e2 e3 m1 m2 m3 x1 := h.ot c2 rfl rfl
  obtain ⟨x2, d1, d2, d3, d4⟩ := row_out c3
  have h2 : Dx o lim n X e1 e2 e3 m1 m2 m3 x2 := h1.ot d2 rfl rfl
  obtain ⟨x3, r1, r2⟩ := ex_b (p := 0) (s := 0) h2.1
  have h3 : Dx o lim n X e1 e2 e3 m1 m2 m3 x3 := h2.ck r2
  have d5 : Rr x3 2 0 ((kS X).2 e2) := d4.ot r2 rfl
  have s70 : zI x3 70 0 0 0 = zI z 70 0 0 0 := ((r2.I rfl).trans (d2.I rfl)).trans (c2.I rfl)
  have h5 : zI x3 512 2 0 0 = nI (kS X).1 := h3.2.2.1.1.1
  have q1 : zI x2 1481 2 2 (Int32.toNatClampNeg 0) = nI 3 := h2.1.i1481_2_0
  have q2 : zI x2 1482 2 2 (Int32.toNatClampNeg 0) = nI 7 := h2.1.i1482_2_0
  have co : ∀ v : Int64, (v = 0 ∨ v = 1) → fX5_reckon 2 (nI 3) (nI 7) 0 0 x2 = some (v, x3) → fX1_comesOut 2 2 2 2 0 (nI e2) x1 = some (if v = 0 then 0 else 1, x3) := fun v hv hr => by
    unfold fX1_comesOut
    rw [h1.1.i449_2_0, if_pos rfl, bq_e d1, if_pos (show gi 0 6 by decide), if_pos (show gi 0 6 by decide), h2.1.r64, q1, q2, bq_e hr]
    rcases hv with rfl | rfl
    · rw [if_pos (by decide)]; rfl
    · rw [if_neg (by decide)]; rfl
  unfold fX1_lookAtNewRows
  rw [bq_e (in_2 h.1), nn_e, if_pos (show gi 0 2 by decide), show zI z 1486 2 2 (Int32.toNatClampNeg 0) = nI e2 from h.2.2.2.2.2.2.1.2.1, hm, fX1_lookAtNewRows_22, h.2.2.1.1.1, if_neg (fun q => absurd ((n_le (by omega) (by omega)).mp q) (by omega)), bq_e c1, h1.1.i449_2_0, if_neg (by decide)]
  rw [show zJ x2 1410 0 0 1 = _ from d3.2.2.2] at r1
  unfold spB
  by_cases q : lN lim < ((kS X).2 e2).2.2
  · rw [if_pos q] at r1 ⊢
    simp only [if_pos q]
    have h4 := h3.n2 (m := (kS X).1)
    refine ⟨_, ?_, h4, ?_⟩
    · rw [bq_e (show _ = some ((0 : Int32), x3) from co 0 (Or.inl rfl) r1), if_pos rfl, i_1, n_add, he, fX1_lookAtNewRows_22]
      rw [h3.2.2.1.1.1, if_pos ((n_le (by omega) (by omega)).mpr (by omega)), if_pos (show gi 0 2 by decide), lt_k]
      rfl
    · rw [sI_c (by decide), s70]
      exact (Int32.add_zero _).symm
  · rw [if_neg q] at r1 ⊢
    simp only [if_neg q]
    have h4 := ((h3.tB (p1 := 2) (s1 := 0) d5.1 d5.2.2.1 d5.2.2.2).s70 (v := zI x3 70 0 0 0 + 1)).n2 (m := (kS X).1)
    refine ⟨_, ?_, h4, ?_⟩
    · rw [bq_e (show _ = some ((1 : Int32), x3) from co 1 (Or.inr rfl) r1), if_neg (by decide), bq_e (show fX1_give 2 2 0 x3 = _ from give_o (s := 2) h3.1 (by decide) (by decide) hA h3.2.2.1.2.2.1.1), i_1, n_add, he, fX1_lookAtNewRows_22]
      rw [show zI (sI (addT x3 2 2 (kB X).1 2 0) 70 0 0 0 (zI x3 70 0 0 0 + nI 1)) 512 2 0 0 = nI (kS X).1 from h5, if_pos ((n_le (by omega) (by omega)).mpr (by omega)), if_pos (show gi 0 2 by decide), lt_k]
      rfl
    · rw [sI_c (by decide), zI_sI, if_pos ⟨rfl, rfl, rfl, rfl⟩, s70]
end LOK
