/-! THE DESK OF THE PROGRAM in numbers; the cells that hold it -/
def stc (c : Nat) : Bool := [321, 323, 326, 1348, 1349, 448, 449, 450, 453, 455, 456, 1476, 1481, 1482, 1483, 0, 1, 2, 3].contains c
/-- what the program says: nobody writes it any more -/
def PF (lim n : Nat) (z : Zs) : Prop := (∀ e ∈ ckI n, stc e.1 = true → zI z e.1 e.2.1 e.2.2.1 e.2.2.2.1 = e.2.2.2.2) ∧ (∀ e ∈ ckJ lim, zJ z e.1 e.2.1 e.2.2.1 e.2.2.2.1 = e.2.2.2.2) ∧ zR z 64 0 0 0 = (2, 0) ∧ zR z 707 0 0 0 = (2, 0) ∧ ∀ j, j < 60 → zR z 1089 0 0 j = (4, j)
theorem okR.pf {lim n : Nat} {z : Zs} (h : okR lim n z) : PF lim n z := ⟨fun e he _ => h.1 e he, h.2⟩
theorem ckJ_c {lim : Nat} : ∀ e ∈ ckJ lim, e.1 = 1349 ∨ e.1 = 448 := by
  intro e he
  simp only [ckJ, List.mem_cons, List.not_mem_nil, or_false] at he
  rcases he with rfl | rfl | rfl | rfl | rfl | rfl | rfl | rfl | rfl | rfl | rfl | rfl | rfl | rfl | rfl | rfl | rfl | rfl <;> first | exact Or.inl rfl | exact Or.inr rfl
theorem PF.fr {lim n : Nat} {z y : Zs} (h : PF lim n z) (hI : ∀ c p s i, stc c = true → zI y c p s i = zI z c p s i) (hJ : ∀ c p s i, c = 1349 ∨ c = 448 → zJ y c p s i = zJ z c p s i) (hR : zR y = zR z) : PF lim n y := by
  obtain ⟨h1, h2, h3⟩ := h
  refine ⟨fun e he hs => (hI _ _ _ _ hs).trans (h1 e he hs), fun e he => (hJ _ _ _ _ (ckJ_c e he)).trans (h2 e he), ?_⟩
  rw [hR]
  exact h3
section PFS
variable {lim n c p s i : Nat} {z : Zs} {v t w : Int32} {x : Int64} {f : Nat → Int64}
theorem PF.sI (h : PF lim n z) (hc : stc c = false) : PF lim n (sI z c p s i v) := h.fr (fun c' p' s' i' hs => by rw [zI_sI, if_neg (fun q => by rw [q.1, hc] at hs; cases hs)]) (fun _ _ _ _ _ => rfl) rfl
theorem PF.sJ (h : PF lim n z) (hc : stc c = false) : PF lim n (sJ z c p s i x) := h.fr (fun _ _ _ _ _ => rfl) (fun c' p' s' i' hs => by rw [zJ_sJ, if_neg (fun q => by rcases hs with hs | hs <;> (rw [← q.1, hs] at hc; cases hc))]) rfl
theorem PF.jJ (h : PF lim n z) (hc : stc c = false) : PF lim n (jJ z c p s f) := h.fr (fun _ _ _ _ _ => rfl) (fun c' p' s' i' hs => by rw [zJ_jJ, if_neg (fun q => by rcases hs with hs | hs <;> (rw [← q.1, hs] at hc; cases hc))]) rfl
theorem PF.wRow (h : PF lim n z) : PF lim n (wRow z p s t w f) := h.fr (fun c' p' s' i' hs => by rw [zI_wRow, if_neg (fun q => by rw [q.1] at hs; cases hs), if_neg (fun q => by rw [q.1] at hs; cases hs)]) (fun c' p' s' i' hs => by rw [zJ_wRow, if_neg (fun q => by omega)]) rfl
theorem PF.addT {r p1 s1 : Nat} (h : PF lim n z) : PF lim n (addT z p s r p1 s1) := ((h.sI (c := 1538) rfl).jJ (c := 1539) rfl).sI rfl
theorem PF.holdC {q p3 s3 k : Nat} {a b : Int32} (h : PF lim n z) : PF lim n (holdC z q p3 s3 a b k) := ((h.wRow.sI (c := 387) rfl).sI (c := 388) rfl).sI rfl

theorem PF.i321_0_0 (h : PF lim n z) : zI z 321 2 0 0 = 4 := h.1 _ (List.mem_of_getElem? (i := 8) rfl) rfl
theorem PF.i323_0_0 (h : PF lim n z) : zI z 323 2 0 0 = 2 := h.1 _ (List.mem_of_getElem? (i := 9) rfl) rfl
theorem PF.i326_0_0 (h : PF lim n z) : zI z 326 2 0 0 = 14 := h.1 _ (List.mem_of_getElem? (i := 10) rfl) rfl
theorem PF.i1348_0_0 (h : PF lim n z) : zI z 1348 2 0 0 = 2 := h.1 _ (List.mem_of_getElem? (i := 11) rfl) rfl
theorem PF.i1348_0_1 (h : PF lim n z) : zI z 1348 2 0 1 = 3 := h.1 _ (List.mem_of_getElem? (i := 12) rfl) rfl
theorem PF.i1348_0_2 (h : PF lim n z) : zI z 1348 2 0 2 = 62 := h.1 _ (List.mem_of_getElem? (i := 13) rfl) rfl
theorem PF.i1348_0_3 (h : PF lim n z) : zI z 1348 2 0 3 = 2 := h.1 _ (List.mem_of_getElem? (i := 14) rfl) rfl
theorem PF.i1348_0_4 (h : PF lim n z) : zI z 1348 2 0 4 = 3 := h.1 _ (List.mem_of_getElem? (i := 15) rfl) rfl
theorem PF.i1348_0_5 (h : PF lim n z) : zI z 1348 2 0 5 = 62 := h.1 _ (List.mem_of_getElem? (i := 16) rfl) rfl
theorem PF.i1348_0_6 (h : PF lim n z) : zI z 1348 2 0 6 = 158 := h.1 _ (List.mem_of_getElem? (i := 17) rfl) rfl
theorem PF.i1348_0_7 (h : PF lim n z) : zI z 1348 2 0 7 = 2 := h.1 _ (List.mem_of_getElem? (i := 18) rfl) rfl
theorem PF.i1348_0_8 (h : PF lim n z) : zI z 1348 2 0 8 = 2 := h.1 _ (List.mem_of_getElem? (i := 19) rfl) rfl
theorem PF.i1348_0_9 (h : PF lim n z) : zI z 1348 2 0 9 = 3 := h.1 _ (List.mem_of_getElem? (i := 20) rfl) rfl
theorem PF.i1348_0_10 (h : PF lim n z) : zI z 1348 2 0 10 = 15422 := h.1 _ (List.mem_of_getElem? (i := 21) rfl) rfl
theorem PF.i1348_0_11 (h : PF lim n z) : zI z 1348 2 0 11 = 2 := h.1 _ (List.mem_of_getElem? (i := 22) rfl) rfl
theorem PF.i1348_0_12 (h : PF lim n z) : zI z 1348 2 0 12 = 3 := h.1 _ (List.mem_of_getElem? (i := 23) rfl) rfl
theorem PF.i1348_0_13 (h : PF lim n z) : zI z 1348 2 0 13 = 15422 := h.1 _ (List.mem_of_getElem? (i := 24) rfl) rfl
theorem PF.i449_0_0 (h : PF lim n z) : zI z 449 2 0 0 = 0 := h.1 _ (List.mem_of_getElem? (i := 25) rfl) rfl
theorem PF.i450_0_0 (h : PF lim n z) : zI z 450 2 0 0 = 2 := h.1 _ (List.mem_of_getElem? (i := 26) rfl) rfl
theorem PF.i449_1_0 (h : PF lim n z) : zI z 449 2 1 0 = 1 := h.1 _ (List.mem_of_getElem? (i := 31) rfl) rfl
theorem PF.i450_1_0 (h : PF lim n z) : zI z 450 2 1 0 = 2 := h.1 _ (List.mem_of_getElem? (i := 32) rfl) rfl
theorem PF.i449_2_0 (h : PF lim n z) : zI z 449 2 2 0 = 1 := h.1 _ (List.mem_of_getElem? (i := 37) rfl) rfl
theorem PF.i450_2_0 (h : PF lim n z) : zI z 450 2 2 0 = 2 := h.1 _ (List.mem_of_getElem? (i := 38) rfl) rfl
theorem PF.i449_3_0 (h : PF lim n z) : zI z 449 2 3 0 = 7 := h.1 _ (List.mem_of_getElem? (i := 43) rfl) rfl
theorem PF.i450_3_0 (h : PF lim n z) : zI z 450 2 3 0 = 4 := h.1 _ (List.mem_of_getElem? (i := 44) rfl) rfl
theorem PF.i453_3_0 (h : PF lim n z) : zI z 453 2 3 0 = 0 := h.1 _ (List.mem_of_getElem? (i := 49) rfl) rfl
theorem PF.i455_0_0 (h : PF lim n z) : zI z 455 2 0 0 = 3 := h.1 _ (List.mem_of_getElem? (i := 50) rfl) rfl
theorem PF.i455_3_0 (h : PF lim n z) : zI z 455 2 3 0 = nI n := h.1 _ (List.mem_of_getElem? (i := 51) rfl) rfl
theorem PF.i456_3_0 (h : PF lim n z) : zI z 456 2 3 0 = 0 := h.1 _ (List.mem_of_getElem? (i := 52) rfl) rfl
theorem PF.i1476_1_0 (h : PF lim n z) : zI z 1476 2 1 0 = 0 := h.1 _ (List.mem_of_getElem? (i := 54) rfl) rfl
theorem PF.i1476_1_1 (h : PF lim n z) : zI z 1476 2 1 1 = (-1) := h.1 _ (List.mem_of_getElem? (i := 55) rfl) rfl
theorem PF.i1476_2_0 (h : PF lim n z) : zI z 1476 2 2 0 = 0 := h.1 _ (List.mem_of_getElem? (i := 56) rfl) rfl
theorem PF.i1476_2_1 (h : PF lim n z) : zI z 1476 2 2 1 = (-1) := h.1 _ (List.mem_of_getElem? (i := 57) rfl) rfl
theorem PF.i1476_3_0 (h : PF lim n z) : zI z 1476 2 3 0 = 0 := h.1 _ (List.mem_of_getElem? (i := 58) rfl) rfl
theorem PF.i1476_3_1 (h : PF lim n z) : zI z 1476 2 3 1 = (-1) := h.1 _ (List.mem_of_getElem? (i := 59) rfl) rfl
theorem PF.i1481_1_0 (h : PF lim n z) : zI z 1481 2 1 0 = 0 := h.1 _ (List.mem_of_getElem? (i := 60) rfl) rfl
theorem PF.i1482_1_0 (h : PF lim n z) : zI z 1482 2 1 0 = 3 := h.1 _ (List.mem_of_getElem? (i := 61) rfl) rfl
theorem PF.i1481_2_0 (h : PF lim n z) : zI z 1481 2 2 0 = 3 := h.1 _ (List.mem_of_getElem? (i := 62) rfl) rfl
theorem PF.i1482_2_0 (h : PF lim n z) : zI z 1482 2 2 0 = 7 := h.1 _ (List.mem_of_getElem? (i := 63) rfl) rfl
theorem PF.i1481_3_3 (h : PF lim n z) : zI z 1481 2 3 3 = 7 := h.1 _ (List.mem_of_getElem? (i := 64) rfl) rfl
theorem PF.i1482_3_3 (h : PF lim n z) : zI z 1482 2 3 3 = 8 := h.1 _ (List.mem_of_getElem? (i := 65) rfl) rfl
theorem PF.i1483_3_2 (h : PF lim n z) : zI z 1483 2 3 2 = 151 := h.1 _ (List.mem_of_getElem? (i := 66) rfl) rfl
theorem PF.i1483_3_3 (h : PF lim n z) : zI z 1483 2 3 3 = 150 := h.1 _ (List.mem_of_getElem? (i := 67) rfl) rfl
theorem PF.i0_0_0 (h : PF lim n z) : zI z 0 2 0 0 = 0 := h.1 _ (List.mem_of_getElem? (i := 68) rfl) rfl
theorem PF.i1_0_0 (h : PF lim n z) : zI z 1 2 0 0 = 147 := h.1 _ (List.mem_of_getElem? (i := 69) rfl) rfl
theorem PF.i2_0_0 (h : PF lim n z) : zI z 2 2 0 0 = 8 := h.1 _ (List.mem_of_getElem? (i := 70) rfl) rfl
theorem PF.i3_0_0 (h : PF lim n z) : zI z 3 2 0 0 = 11 := h.1 _ (List.mem_of_getElem? (i := 71) rfl) rfl
theorem PF.i0_1_0 (h : PF lim n z) : zI z 0 2 1 0 = 0 := h.1 _ (List.mem_of_getElem? (i := 73) rfl) rfl
theorem PF.i1_1_0 (h : PF lim n z) : zI z 1 2 1 0 = 148 := h.1 _ (List.mem_of_getElem? (i := 74) rfl) rfl
theorem PF.i2_1_0 (h : PF lim n z) : zI z 2 2 1 0 = 11 := h.1 _ (List.mem_of_getElem? (i := 75) rfl) rfl
theorem PF.i3_1_0 (h : PF lim n z) : zI z 3 2 1 0 = 14 := h.1 _ (List.mem_of_getElem? (i := 76) rfl) rfl
theorem PF.j1349_0_0 (h : PF lim n z) : zJ z 1349 2 0 0 = 1 := h.2.1 _ (List.mem_of_getElem? (i := 0) rfl)
theorem PF.j1349_0_1 (h : PF lim n z) : zJ z 1349 2 0 1 = lN lim := h.2.1 _ (List.mem_of_getElem? (i := 1) rfl)
theorem PF.j1349_0_2 (h : PF lim n z) : zJ z 1349 2 0 2 = 0 := h.2.1 _ (List.mem_of_getElem? (i := 2) rfl)
theorem PF.j1349_0_3 (h : PF lim n z) : zJ z 1349 2 0 3 = 1 := h.2.1 _ (List.mem_of_getElem? (i := 3) rfl)
theorem PF.j1349_0_4 (h : PF lim n z) : zJ z 1349 2 0 4 = lN lim := h.2.1 _ (List.mem_of_getElem? (i := 4) rfl)
theorem PF.j1349_0_5 (h : PF lim n z) : zJ z 1349 2 0 5 = 0 := h.2.1 _ (List.mem_of_getElem? (i := 5) rfl)
theorem PF.j1349_0_6 (h : PF lim n z) : zJ z 1349 2 0 6 = 0 := h.2.1 _ (List.mem_of_getElem? (i := 6) rfl)
theorem PF.j1349_0_7 (h : PF lim n z) : zJ z 1349 2 0 7 = 1 := h.2.1 _ (List.mem_of_getElem? (i := 7) rfl)
theorem PF.j1349_0_8 (h : PF lim n z) : zJ z 1349 2 0 8 = 1 := h.2.1 _ (List.mem_of_getElem? (i := 8) rfl)
theorem PF.j1349_0_9 (h : PF lim n z) : zJ z 1349 2 0 9 = 2 := h.2.1 _ (List.mem_of_getElem? (i := 9) rfl)
theorem PF.j1349_0_10 (h : PF lim n z) : zJ z 1349 2 0 10 = 0 := h.2.1 _ (List.mem_of_getElem? (i := 10) rfl)
theorem PF.j1349_0_11 (h : PF lim n z) : zJ z 1349 2 0 11 = 1 := h.2.1 _ (List.mem_of_getElem? (i := 11) rfl)
theorem PF.j1349_0_12 (h : PF lim n z) : zJ z 1349 2 0 12 = 5 := h.2.1 _ (List.mem_of_getElem? (i := 12) rfl)
theorem PF.j1349_0_13 (h : PF lim n z) : zJ z 1349 2 0 13 = 0 := h.2.1 _ (List.mem_of_getElem? (i := 13) rfl)
theorem PF.j448_0_0 (h : PF lim n z) : zJ z 448 2 0 0 = 115 := h.2.1 _ (List.mem_of_getElem? (i := 14) rfl)
theorem PF.j448_1_0 (h : PF lim n z) : zJ z 448 2 1 0 = 97 := h.2.1 _ (List.mem_of_getElem? (i := 15) rfl)
theorem PF.j448_2_0 (h : PF lim n z) : zJ z 448 2 2 0 = 98 := h.2.1 _ (List.mem_of_getElem? (i := 16) rfl)
theorem PF.j448_3_0 (h : PF lim n z) : zJ z 448 2 3 0 = 119 := h.2.1 _ (List.mem_of_getElem? (i := 17) rfl)
theorem PF.r64 (h : PF lim n z) : zR z 64 0 0 0 = (2, 0) := h.2.2.1
theorem PF.r707 (h : PF lim n z) : zR z 707 0 0 0 = (2, 0) := h.2.2.2.1
theorem PF.held (h : PF lim n z) {j : Nat} (hj : j < 60) : zR z 1089 0 0 j = (4, j) := h.2.2.2.2 j hj
end PFS
/-- a table: its rows' times and numbers -/
def Tb (z : Zs) (s w k : Nat) (t : Nat → Nat) (f : Nat → Nat → Int64) : Prop := zI z 512 2 s 0 = nI k ∧ zI z 513 2 s 0 = nI w ∧ (∀ i, i < k → zI z 1538 2 s i = nI (t i)) ∧ ∀ i j, i < k → j < w → zJ z 1539 2 s (i * 6 + j) = f i j
/-- a window: key, end, size, sum -/
abbrev Wn : Type := Int64 × Nat × Nat × Int64
def Ws (z : Zs) (k : Nat) (f : Nat → Wn) (c : Nat → Bool) : Prop := zI z 640 2 3 0 = nI k ∧ ∀ i, i < k → zJ z 1665 2 3 i = (f i).1 ∧ zI z 1666 2 3 i = nI (f i).2.1 ∧ zI z 1667 2 3 i = (if c i then 1 else 0) ∧ zI z 1668 2 3 i = nI (f i).2.2.1 ∧ zJ z 1669 2 3 (i * 4) = lN (f i).2.2.1 ∧ zJ z 1669 2 3 (i * 4 + 1) = (f i).2.2.2
/-- a row of the source: time, key, value -/
abbrev Rw : Type := Nat × Int64 × Int64
/-- the row (p, s) -/
def Rr (z : Zs) (p s : Nat) (r : Rw) : Prop := zI z 384 p s 0 = nI r.1 ∧ zI z 385 p s 0 = nI 2 ∧ zJ z 1410 p s 0 = r.2.1 ∧ zJ z 1410 p s 1 = r.2.2
/-- held rows: late or not, and the row -/
def Hs (z : Zs) (k : Nat) (f : Nat → Bool × Rw) : Prop := zI z 66 0 0 0 = nI k ∧ ∀ i, i < k → Rr z 4 i (f i).2 ∧ zI z 387 4 i 0 = (if (f i).1 then 3 else 0) ∧ zI z 388 4 i 0 = (if (f i).1 then -1 else 1)
/-- the log -/
def Lg (z : Zs) (k : Nat) (f : Nat → Rw) : Prop := zI z 716 0 0 0 = nI k ∧ ∀ i, i < k → zI z 128 0 i 0 = 0 ∧ zJ z 129 0 i 0 = 115 ∧ Rr z 5 i (f i)
/-- the desk: rows of s, a, b, w; windows; held rows; a number one above the watermark; broken checks; pushes -/
abbrev Dk : Type := (Nat × (Nat → Rw)) × (Nat × (Nat → Rw)) × (Nat × (Nat → Rw)) × (Nat × (Nat → Wn)) × (Nat × (Nat → Wn)) × (Nat × (Nat → Bool × Rw)) × Nat × Nat × Nat × Nat
def kS (X : Dk) := X.1
def kA (X : Dk) := X.2.1
def kB (X : Dk) := X.2.2.1
def kR (X : Dk) := X.2.2.2.1
def kW (X : Dk) := X.2.2.2.2.1
def kH (X : Dk) := X.2.2.2.2.2.1
def kM (X : Dk) := X.2.2.2.2.2.2.1
def k0 (X : Dk) := X.2.2.2.2.2.2.2.1
def k1 (X : Dk) := X.2.2.2.2.2.2.2.2.1
def kN (X : Dk) := X.2.2.2.2.2.2.2.2.2
def rwJ (r : Rw) (j : Nat) : Int64 := if j = 0 then r.2.1 else r.2.2
/-- a row of w: key, begin, count, sum -/
def wnJ (n : Nat) (w : Wn) (j : Nat) : Int64 := if j = 0 then w.1 else if j = 1 then lN (w.2.1 - n) else if j = 2 then lN w.2.2.1 else w.2.2.2
def wmI (m : Nat) : Int32 := nI m - 1
/-- scalars at rest -/
def lgl : List (Nat × Nat) := [(716, 0), (128, 0), (129, 0), (384, 5), (385, 5), (1410, 5), (384, 3), (385, 3), (1410, 3)]
/-- .. and the log as it was -/
def Sc (o z : Zs) : Prop := (zI z 67 0 0 0 = 0 ∧ zI z 68 0 0 0 = 0 ∧ zI z 705 0 0 0 = 0 ∧ zI z 718 0 0 0 = 0) ∧ ∀ c p s i, lgl.contains (c, p) = true → zI z c p s i = zI o c p s i ∧ zJ z c p s i = zJ o c p s i
/-- the streams' cells: e tells how many rows each step has looked at, m the watermarks -/
def Dc (o : Zs) (g : Nat → Bool) (lim n : Nat) (X : Dk) (e1 e2 e3 m1 m2 m3 : Nat) (z : Zs) : Prop := PF lim n z ∧ Sc o z ∧ (Tb z 0 2 (kS X).1 (fun i => ((kS X).2 i).1) (fun i j => rwJ ((kS X).2 i) j) ∧ Tb z 1 2 (kA X).1 (fun i => ((kA X).2 i).1) (fun i j => rwJ ((kA X).2 i) j) ∧ Tb z 2 2 (kB X).1 (fun i => ((kB X).2 i).1) (fun i j => rwJ ((kB X).2 i) j) ∧ Tb z 3 4 (kR X).1 (fun i => ((kR X).2 i).2.1) (fun i j => wnJ n ((kR X).2 i) j)) ∧ Ws z (kW X).1 (kW X).2 g ∧ Hs z (kH X).1 (kH X).2 ∧ (zI z 461 2 0 0 = wmI (kM X) ∧ zI z 461 2 1 0 = wmI m1 ∧ zI z 461 2 2 0 = wmI m2 ∧ zI z 461 2 3 0 = wmI m3) ∧ (zI z 1486 2 1 0 = nI e1 ∧ zI z 1486 2 2 0 = nI e2 ∧ zI z 1486 2 3 0 = nI e3) ∧ zI z 4 2 0 0 = nI (k0 X) ∧ zI z 4 2 1 0 = nI (k1 X) ∧ zI z 69 0 0 0 = nI (kN X)
/-- .. with every window open -/
abbrev Dx (o : Zs) (lim n : Nat) (X : Dk) (e1 e2 e3 m1 m2 m3 : Nat) (z : Zs) : Prop := Dc o (fun _ => false) lim n X e1 e2 e3 m1 m2 m3 z

