/-! A STREAM WOULD GET A ROW: tables, held rows -/
def pushF {α : Type} (k : Nat) (f : Nat → α) (x : α) : Nat → α := fun i => if i = k then x else f i
theorem pushF_s {α : Type} {k : Nat} {f : Nat → α} {x : α} : pushF k f x k = x := if_pos rfl
theorem pushF_o {α : Type} {k i : Nat} {f : Nat → α} {x : α} (h : i < k) : pushF k f x i = f i := if_neg (by omega)
def sS (X : Dk) (p : Nat × (Nat → Rw)) : Dk := (p, X.2)
def sA (X : Dk) (p : Nat × (Nat → Rw)) : Dk := (X.1, p, X.2.2)
def sB (X : Dk) (p : Nat × (Nat → Rw)) : Dk := (X.1, X.2.1, p, X.2.2.2)
def sRw (X : Dk) (p : Nat × (Nat → Wn)) : Dk := (X.1, X.2.1, X.2.2.1, p, X.2.2.2.2)
def sWn (X : Dk) (p : Nat × (Nat → Wn)) : Dk := (X.1, X.2.1, X.2.2.1, X.2.2.2.1, p, X.2.2.2.2.2)
def sH (X : Dk) (p : Nat × (Nat → Bool × Rw)) : Dk := (X.1, X.2.1, X.2.2.1, X.2.2.2.1, X.2.2.2.2.1, p, X.2.2.2.2.2.2)
def sM (X : Dk) (m : Nat) : Dk := (X.1, X.2.1, X.2.2.1, X.2.2.2.1, X.2.2.2.2.1, X.2.2.2.2.2.1, m, X.2.2.2.2.2.2.2)
def s0k (X : Dk) (m : Nat) : Dk := (X.1, X.2.1, X.2.2.1, X.2.2.2.1, X.2.2.2.2.1, X.2.2.2.2.2.1, X.2.2.2.2.2.2.1, m, X.2.2.2.2.2.2.2.2)
def s1k (X : Dk) (m : Nat) : Dk := (X.1, X.2.1, X.2.2.1, X.2.2.2.1, X.2.2.2.2.1, X.2.2.2.2.2.1, X.2.2.2.2.2.2.1, X.2.2.2.2.2.2.2.1, m, X.2.2.2.2.2.2.2.2.2)
def sNk (X : Dk) (m : Nat) : Dk := (X.1, X.2.1, X.2.2.1, X.2.2.2.1, X.2.2.2.2.1, X.2.2.2.2.2.1, X.2.2.2.2.2.2.1, X.2.2.2.2.2.2.2.1, X.2.2.2.2.2.2.2.2.1, m)
section GV
variable {z : Zs} {lim n s w k p1 s1 p2 s2 : Nat} {t t' : Nat → Nat} {f f' : Nat → Nat → Int64}
theorem Tb.cg (h : Tb z s w k t f) (ht : ∀ i, i < k → t i = t' i) (hf : ∀ i j, i < k → j < w → f i j = f' i j) : Tb z s w k t' f' :=
  ⟨h.1, h.2.1, fun i hi => by rw [← ht i hi]; exact h.2.2.1 i hi, fun i j hi hj => by rw [← hf i j hi hj]; exact h.2.2.2 i j hi hj⟩
theorem Tb.add {t0 : Nat} {g : Nat → Int64} (h : Tb z s w k t f) (hw : w ≤ 6) (h1 : zI z 384 p1 s1 0 = nI t0) (h2 : ∀ j, j < w → zJ z 1410 p1 s1 j = g j) : Tb (addT z 2 s k p1 s1) s w (k + 1) (pushF k t t0) (pushF k f g) := by
  obtain ⟨a1, a2, a3, a4⟩ := h
  refine ⟨?_, a2, fun i hi => ?_, fun i j hi hj => ?_⟩
  · unfold addT
    rw [zI_sI, if_pos ⟨rfl, rfl, rfl, rfl⟩]
  · unfold addT
    rw [sI_c (by decide), zI_jJ, zI_sI]
    by_cases q : i = k
    · rw [if_pos ⟨rfl, rfl, rfl, q⟩, q, pushF_s]; exact h1
    · rw [if_neg (fun e => q e.2.2.2), pushF_o (by omega)]; exact a3 i (by omega)
  · unfold addT
    show zJ (jJ (sI z 1538 2 s k (zI z 384 p1 s1 0)) 1539 2 s (fun j => if k * 6 ≤ j ∧ j < k * 6 + 6 then zJ z 1410 p1 s1 (j - k * 6) else zJ z 1539 2 s j)) 1539 2 s (i * 6 + j) = _
    rw [zJ_jJ, if_pos ⟨rfl, rfl, rfl⟩]
    by_cases q : i = k
    · subst q
      rw [if_pos (by omega), pushF_s, show i * 6 + j - i * 6 = j by omega]; exact h2 j hj
    · rw [if_neg (by omega), pushF_o (by omega)]; exact a4 i j (by omega) hj
theorem Tb.addo {s' : Nat} (h : Tb z s w k t f) {r : Nat} (hn : s ≠ s') : Tb (addT z 2 s' r p1 s1) s w k t f := by
  refine h.fr ?_ rfl (fun i => ?_) (fun i => ?_)
  · unfold addT
    rw [zI_sI, if_neg (fun e => hn e.2.2.1)]; rfl
  · unfold addT
    rw [sI_c (by decide), zI_jJ, zI_sI, if_neg (fun e => hn e.2.2.1)]
  · unfold addT
    show zJ (jJ (sI z 1538 2 s' r (zI z 384 p1 s1 0)) 1539 2 s' (fun j => if r * 6 ≤ j ∧ j < r * 6 + 6 then zJ z 1410 p1 s1 (j - r * 6) else zJ z 1539 2 s' j)) 1539 2 s i = _
    rw [zJ_jJ, if_neg (fun e => hn e.2.2)]; rfl
theorem acc_C (hz : PF lim n z) (hs : s < 12) (hk : k < 200) (h : zI z 512 2 s 0 = nI k) : fX1_accept (nI s) p2 s2 z = some ((), sI (addT z 2 s k p2 s2) 70 0 0 0 (zI z 70 0 0 0 + 1)) := by
  unfold fX1_accept
  rw [hz.r64, if_pos ((n_gi (by omega)).mpr hs), n_cl (by omega), bq_e (tab_add hk h), if10, lt_k]
  rfl
theorem fu_3 : ∃ k, FU = k + 1 + 1 + 1 := ⟨19997, rfl⟩
/-- no check speaks of streams 1 to 3 -/
theorem give_o (hz : PF lim n z) (hs : 1 ≤ s) (hs2 : s < 4) (hk : k < 200) (h : zI z 512 2 s 0 = nI k) : fX1_give (nI s) p2 s2 z = some ((), sI (addT z 2 s k p2 s2) 70 0 0 0 (zI z 70 0 0 0 + 1)) := by
  obtain ⟨m, hm⟩ := fu_3
  have e2 : (2 : Int32) = nI 2 := rfl
  have n0 : ¬ (0 : Int32) = nI s := by rw [i_0, n_eq (by omega) (by omega)]; omega
  unfold fX1_give
  rw [hm, fX1_give_2, hz.r64, hz.i323_0_0, if_neg (by decide), if_pos (show gi 0 8 by decide), show Int32.toNatClampNeg 0 = 0 from rfl, hz.i0_0_0, if_neg n0, show (0 : Int32) + 1 = 1 by decide]
  rw [fX1_give_2, hz.r64, hz.i323_0_0, if_neg (by decide), if_pos (show gi 1 8 by decide), show Int32.toNatClampNeg 1 = 1 from rfl, hz.i0_1_0, if_neg n0, show (1 : Int32) + 1 = 2 by decide]
  rw [fX1_give_2, hz.r64, hz.i323_0_0, if_pos (by decide), bq_e (acc_C hz (by omega) hk h)]
theorem ck_J {y : Zs} {p s i : Nat} (h : Ot ckS z y) : zJ y 1410 p s i = zJ z 1410 p s i := h.J (by
  cases q : ckS.contains (1410, p) with
  | false => rfl
  | true =>
    have := List.contains_iff_mem.mp q
    simp [ckS] at this)
/-- the source gets a row: v = 2 is dropped, v = 5 held, any other taken -/
theorem give_2 (hz : PF lim n z) (hv : zJ z 1410 p2 s2 1 = 2) : ∃ y, Ot ckS z y ∧ fX1_give 0 p2 s2 z = some ((), sI y 4 2 0 0 (zI z 4 2 0 0 + 1)) := by
  obtain ⟨m, hm⟩ := fu_3
  obtain ⟨y, e1, e2⟩ := ex_c (p := p2) (s := s2) hz
  rw [if_pos hv] at e1
  refine ⟨y, e2, ?_⟩
  have hy := hz.ot e2 rfl
  have ec : zI y 4 2 0 0 = zI z 4 2 0 0 := e2.I rfl
  have f1 : zI (sI y 4 2 0 0 (zI z 4 2 0 0 + 1)) 1 2 0 0 = 147 := hy.i1_0_0
  unfold fX1_give
  rw [hm, fX1_give_2, hz.r64, hz.i323_0_0, if_neg (by decide), if_pos (show gi 0 8 by decide), show Int32.toNatClampNeg 0 = 0 from rfl, hz.i0_0_0, if_pos rfl, hz.i2_0_0, hz.i3_0_0]
  rw [bq_e (show fX5_reckon 2 8 11 p2 s2 z = some (0, y) from e1), if_pos (by decide), lt_k]
  show (if zI (sI y 4 2 0 0 (zI y 4 2 0 0 + 1)) 1 2 0 0 = 149 then _ else if zI (sI y 4 2 0 0 (zI y 4 2 0 0 + 1)) 1 2 0 0 = 147 then _ else _) = _
  rw [ec]
  show (if zI (sI y 4 2 0 0 (zI z 4 2 0 0 + 1)) 1 2 0 0 = 149 then _ else if zI (sI y 4 2 0 0 (zI z 4 2 0 0 + 1)) 1 2 0 0 = 147 then _ else _) = _
  rw [f1, if_neg (by decide), if_pos rfl]
theorem give_5 (hz : PF lim n z) (hv : zJ z 1410 p2 s2 1 = 5) (hp : ¬ p2 = 4) (hk : k < 60) (h66 : zI z 66 0 0 0 = nI k) : ∃ y, Ot ckS z y ∧ fX1_give 0 p2 s2 z = some ((), holdC (sI y 4 2 1 0 (zI z 4 2 1 0 + 1)) k p2 s2 0 1 k) := by
  obtain ⟨m, hm⟩ := fu_3
  obtain ⟨y, e1, e2⟩ := ex_c (p := p2) (s := s2) hz
  rw [if_neg (by rw [hv]; decide)] at e1
  have hy := hz.ot e2 rfl
  obtain ⟨x, d1, d2⟩ := ex_d (p := p2) (s := s2) hy
  rw [if_pos (by rw [ck_J e2]; exact hv)] at d1
  have hx := hy.ot d2 rfl
  refine ⟨x, e2.tr d2, ?_⟩
  have ec : zI x 4 2 1 0 = zI z 4 2 1 0 := (d2.I rfl).trans (e2.I rfl)
  have f1 : zI (sI x 4 2 1 0 (zI z 4 2 1 0 + 1)) 1 2 1 0 = 148 := hx.i1_1_0
  have f6 : zI (sI x 4 2 1 0 (zI z 4 2 1 0 + 1)) 66 0 0 0 = nI k := ((d2.I rfl).trans (e2.I rfl)).trans h66
  unfold fX1_give
  rw [hm, fX1_give_2, hz.r64, hz.i323_0_0, if_neg (by decide), if_pos (show gi 0 8 by decide), show Int32.toNatClampNeg 0 = 0 from rfl, hz.i0_0_0, if_pos rfl, hz.i2_0_0, hz.i3_0_0]
  rw [bq_e (show fX5_reckon 2 8 11 p2 s2 z = some (1, y) from e1), if_neg (by decide), show (0 : Int32) + 1 = 1 by decide]
  rw [fX1_give_2, hy.r64, hy.i323_0_0, if_neg (by decide), if_pos (show gi 1 8 by decide), show Int32.toNatClampNeg 1 = 1 from rfl, hy.i0_1_0, if_pos rfl, hy.i2_1_0, hy.i3_1_0]
  rw [bq_e (show fX5_reckon 2 11 14 p2 s2 y = some (0, x) from d1), if_pos (by decide), lt_k]
  show (if zI (sI x 4 2 1 0 (zI x 4 2 1 0 + 1)) 1 2 1 0 = 149 then _ else if zI (sI x 4 2 1 0 (zI x 4 2 1 0 + 1)) 1 2 1 0 = 147 then _ else _) = _
  rw [ec]
  show (if zI (sI x 4 2 1 0 (zI z 4 2 1 0 + 1)) 1 2 1 0 = 149 then _ else if zI (sI x 4 2 1 0 (zI z 4 2 1 0 + 1)) 1 2 1 0 = 147 then _ else _) = _
  rw [f1, if_neg (by decide), if_neg (by decide)]
  rw [bq_e (hold_C hk f6 (hx.held hk) hp)]
theorem give_n (hz : PF lim n z) (h2 : ¬ zJ z 1410 p2 s2 1 = 2) (h5 : ¬ zJ z 1410 p2 s2 1 = 5) (hk : k < 200) (h : zI z 512 2 0 0 = nI k) : ∃ y, Ot ckS z y ∧ fX1_give 0 p2 s2 z = some ((), sI (addT y 2 0 k p2 s2) 70 0 0 0 (zI z 70 0 0 0 + 1)) := by
  obtain ⟨m, hm⟩ := fu_3
  obtain ⟨y, e1, e2⟩ := ex_c (p := p2) (s := s2) hz
  rw [if_neg h2] at e1
  have hy := hz.ot e2 rfl
  obtain ⟨x, d1, d2⟩ := ex_d (p := p2) (s := s2) hy
  rw [if_neg (by rw [ck_J e2]; exact h5)] at d1
  have hx := hy.ot d2 rfl
  refine ⟨x, e2.tr d2, ?_⟩
  have ec : zI x 70 0 0 0 = zI z 70 0 0 0 := (d2.I rfl).trans (e2.I rfl)
  have f6 : zI x 512 2 0 0 = nI k := ((d2.I rfl).trans (e2.I rfl)).trans h
  unfold fX1_give
  rw [hm, fX1_give_2, hz.r64, hz.i323_0_0, if_neg (by decide), if_pos (show gi 0 8 by decide), show Int32.toNatClampNeg 0 = 0 from rfl, hz.i0_0_0, if_pos rfl, hz.i2_0_0, hz.i3_0_0]
  rw [bq_e (show fX5_reckon 2 8 11 p2 s2 z = some (1, y) from e1), if_neg (by decide), show (0 : Int32) + 1 = 1 by decide]
  rw [fX1_give_2, hy.r64, hy.i323_0_0, if_neg (by decide), if_pos (show gi 1 8 by decide), show Int32.toNatClampNeg 1 = 1 from rfl, hy.i0_1_0, if_pos rfl, hy.i2_1_0, hy.i3_1_0]
  rw [bq_e (show fX5_reckon 2 11 14 p2 s2 y = some (1, x) from d1), if_neg (by decide), show (1 : Int32) + 1 = 2 by decide]
  rw [fX1_give_2, hx.r64, hx.i323_0_0, if_pos (by decide), ← ec, i_0, bq_e (acc_C hx (by decide) hk f6)]
end GV
