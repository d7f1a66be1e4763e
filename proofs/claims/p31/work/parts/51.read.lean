/-! WHAT THE LAW READS -/
/-- digests -/
def mx (g : Nat → Int64) : Nat → Nat → Int64 → Int64
  | 0, _, a => a
  | m + 1, y, a => mx g m (y + 1) (a * 31 + g y)
def mxT (t : Nat → Nat) (g : Nat → Nat → Int64) (w : Nat) : Nat → Nat → Int64 → Int64
  | 0, _, a => a
  | m + 1, y, a => mxT t g w m (y + 1) (mx (g y) w 0 (a * 31 + (nI (t y)).toInt64))
def mxH (f : Nat → Bool × Rw) : Nat → Nat → Int64 → Int64
  | 0, _, a => a
  | m + 1, y, a => mxH f m (y + 1) (mx (rwJ (f y).2) 2 0 ((((a * 31 + (if (f y).1 then 3 else 0 : Int32).toInt64) * 31 + (if (f y).1 then -1 else 1 : Int32).toInt64) * 31) + (nI (f y).2.1).toInt64))
section RDS
variable {o z : Zs} {lim n k s : Nat} {X : Dk} {f : Nat → Rw}
theorem St.d (h : St lim n X k f z) : Dx z lim n X (kS X).1 (kS X).1 (kS X).1 (kM X) (kM X) (kM X) z := h.1
theorem sat_C (hp : PF lim n z) (hs : s < 4) : fX11_streamAt (nI s) z = some (.ok (2, s), z) := by
  unfold fX11_streamAt
  rw [if_neg (m1_lt (by omega)), hp.r707, hp.i321_0_0, if_pos (show nI s < (4 : Int32) from (n_lt (b := 4) (by omega) (by omega)).mpr hs), if_pos ((n_gi (by omega)).mpr (by omega)), n_cl (by omega)]
theorem rows_C {w j : Nat} {t : Nat → Nat} {g : Nat → Nat → Int64} (hp : PF lim n z) (hs : s < 4) (h : Tb z s w j t g) : fX11_rows (nI s) z = some (.ok (nI j), z) := by
  unfold fX11_rows
  rw [bx_e (sat_C hp hs)]
  show some (Except.ok (zI z 512 2 s 0), z) = _
  rw [h.1]
theorem cnt5_C (h : St lim n X k f z) : fX11_count 5 z = some (.ok (nI (kH X).1), z) := by
  unfold fX11_count
  rw [if_neg (by decide), if_neg (by decide), if_neg (by decide), if_neg (by decide), if_neg (by decide), if_pos rfl, h.1.2.2.2.2.1.1]
theorem brk0_C (h : St lim n X k f z) : fX11_broken 0 z = some (.ok (nI (k0 X)), z) := by
  unfold fX11_broken
  rw [if_neg (by decide), h.1.1.r707, h.1.1.i323_0_0, if_pos (by decide), if_pos (show gi 0 8 by decide), show Int32.toNatClampNeg 0 = 0 from rfl, h.1.2.2.2.2.2.2.2.1]
theorem brk1_C (h : St lim n X k f z) : fX11_broken 1 z = some (.ok (nI (k1 X)), z) := by
  unfold fX11_broken
  rw [if_neg (by decide), h.1.1.r707, h.1.1.i323_0_0, if_pos (by decide), if_pos (show gi 1 8 by decide), show Int32.toNatClampNeg 1 = 1 from rfl, h.1.2.2.2.2.2.2.2.2.1]
theorem lost_C (h : St lim n X k f z) : fX11_lost z = some (0, z) := by
  unfold fX11_lost
  rw [h.1.2.1.1.1]
theorem cel_C {w j r c : Nat} {t : Nat → Nat} {g : Nat → Nat → Int64} (hp : PF lim n z) (hs : s < 4) (h : Tb z s w j t g) (hj : j ≤ 200) (hr : r < j) (hw : w ≤ 6) (hc : c < w) : fX11_cell (nI s) (nI r) (nI c) z = some (.ok (g r c), z) := by
  obtain ⟨a1, a2, a3, a4⟩ := h
  have c1 : ¬ nI c < (-1 : Int32) := fun e => (n_m1g (a := c) (by omega)).mp e
  unfold fX11_cell
  rw [bx_e (sat_C hp hs)]
  dsimp only
  rw [if_neg (m1_lt (by omega)), a1, if_neg (fun e => absurd ((n_le (by omega) (by omega)).mp e) (by omega)), if_neg c1, a2, if_pos ((n_lt (by omega) (by omega)).mpr hc), if_pos (show (0 : Int32) ≤ nI c from (n_le (a := 0) (by omega) (by omega)).mpr (by omega)), bq_e (tab_num a1 a2 hj hr hw hc), a4 r c hr hc]
theorem tim_C {w j r : Nat} {t : Nat → Nat} {g : Nat → Nat → Int64} (hp : PF lim n z) (hs : s < 4) (h : Tb z s w j t g) (hj : j ≤ 200) (hr : r < j) (hw : w ≤ 6) : fX11_cell (nI s) (nI r) (-1) z = some (.ok (nI (t r)).toInt64, z) := by
  obtain ⟨a1, a2, a3, a4⟩ := h
  have c2 : (-1 : Int32) < nI w := (n_m1t (a := w) (by omega)).mpr trivial
  unfold fX11_cell
  rw [bx_e (sat_C hp hs)]
  dsimp only
  rw [if_neg (m1_lt (by omega)), a1, if_neg (fun e => absurd ((n_le (by omega) (by omega)).mp e) (by omega)), if_neg (by decide), a2, if_pos c2, if_neg (by decide), bq_e (tab_time a1 hj hr), a3 r hr]
theorem hra_C {h : Nat} (hd : St lim n X k f z) (hh : h < (kH X).1) (h60 : (kH X).1 ≤ 60) : fX11_heldRowAt (nI h) z = some (.ok (4, h), z) := by
  unfold fX11_heldRowAt fX11_testHeldPlace
  rw [if_neg (m1_lt (by omega)), hd.1.2.2.2.2.1.1, if_pos ((n_lt (by omega) (by omega)).mpr hh)]
  rw [bx_e rfl, if_pos ((n_gi (by omega)).mpr (by omega)), n_cl (by omega), hd.1.1.held (by omega)]
theorem held0_C {h : Nat} (hd : St lim n X k f z) (hh : h < (kH X).1) (h60 : (kH X).1 ≤ 60) : fX11_held (nI h) 0 z = some (.ok (if ((kH X).2 h).1 then 3 else 0), z) := by
  unfold fX11_held
  rw [bx_e (hra_C hd hh h60), if_pos rfl]
  show some (Except.ok (zI z 387 4 h 0), z) = _
  rw [(hd.1.2.2.2.2.1.2 h hh).2.1]
theorem held1_C {h : Nat} (hd : St lim n X k f z) (hh : h < (kH X).1) (h60 : (kH X).1 ≤ 60) : fX11_held (nI h) 1 z = some (.ok (if ((kH X).2 h).1 then -1 else 1), z) := by
  unfold fX11_held
  rw [bx_e (hra_C hd hh h60), if_neg (by decide), if_pos rfl]
  show some (Except.ok (zI z 388 4 h 0), z) = _
  rw [(hd.1.2.2.2.2.1.2 h hh).2.2]
theorem hv_C {h : Nat} (hd : St lim n X k f z) (hh : h < (kH X).1) (h60 : (kH X).1 ≤ 60) : fX11_heldValue (nI h) 1 z = some (.ok ((kH X).2 h).2.2.2, z) := by
  obtain ⟨a1, a2, a3, a4⟩ := (hd.1.2.2.2.2.1.2 h hh).1
  unfold fX11_heldValue
  rw [bx_e (hra_C hd hh h60), if_neg (by decide)]
  dsimp only
  rw [a2, if_pos (by decide), bq_e (show fX6_numberAt 4 h 1 z = some (zJ z 1410 4 h 1, z) from row_num (j := 1) (by decide)), a4]
theorem cth_l {k : Nat} {g : Nat → Wn} (h : Ws z k g (fun _ => false)) (hk : k ≤ 60) (x : Int32) : ∀ (m y r : Nat) (a : Nat), y + m = k → m < r → fX10_countThose_4 2 3 x r (nI a) (nI y) z = some (if x = 0 then nI (a + m) else nI a, z) := by
  intro m
  induction m with
  | zero =>
    intro y r a hy hr
    obtain ⟨r, rfl⟩ : ∃ r', r = r' + 1 := ⟨r - 1, by omega⟩
    unfold fX10_countThose_4
    rw [h.1, if_pos ((n_le (by omega) (by omega)).mpr (by omega))]
    split <;> rfl
  | succ m ih =>
    intro y r a hy hr
    obtain ⟨r, rfl⟩ : ∃ r', r = r' + 1 := ⟨r - 1, by omega⟩
    have b3 : zI z 1667 2 3 (nI y).toNatClampNeg = 0 := by rw [n_cl (by omega)]; exact (h.2 y (by omega)).2.2.1
    unfold fX10_countThose_4
    rw [h.1, if_neg (fun q => absurd ((n_le (by omega) (by omega)).mp q) (by omega)), i_60, if_neg (fun q => absurd ((n_le (by omega) (by omega)).mp q) (by omega)), if_pos ((n_gi (by omega)).mpr (by omega)), b3, i_1, n_add, n_add]
    by_cases q : x = 0
    · rw [if_pos q.symm, if_pos q, ih (y + 1) r (a + 1) (by omega) (by omega), if_pos q, show a + 1 + m = a + (m + 1) by omega]
    · rw [if_neg (fun e => q e.symm), if_neg q, ih (y + 1) r a (by omega) (by omega), if_neg q]
theorem win_C (h : St lim n X k f z) (hk : (kW X).1 ≤ 60) (x : Int32) : fX11_windows 3 x z = some (.ok (if x = 0 then nI (kW X).1 else 0), z) := by
  have c1 := cth_l h.1.2.2.2.1 hk x (kW X).1 0 FU 0 (by omega) (by have : FU = 20000 := rfl; omega)
  rw [Nat.zero_add] at c1
  unfold fX11_windows fX10_countThose
  rw [bx_e (show fX11_streamAt 3 z = some (.ok (2, 3), z) from sat_C (s := 3) h.1.1 (by decide))]
  rw [bq_e (show fX10_countThose_4 (2, 3).1 (2, 3).2 x FU 0 0 z = _ from c1)]
  rfl
theorem n64_q {y p : Int32} (h : ¬ p = 0) : n64 (FP.ddiv (FP.i2d y) (FP.i2d p)) := by
  have h1 := Jvm.FP.Core.i2d_big (Jvm.FP.Core.int32_ne h)
  have h2 := Jvm.FP.Core.i2d_mag y
  have h3 := Jvm.FP.Core.ddiv_mag h2 h1.1 h1.2 (by decide) (by decide)
  have h4 := Jvm.FP.Core.mask_toNat (FP.ddiv (FP.i2d y) (FP.i2d p))
  have h5 : (0x7ff0000000000000 : UInt64).toNat = 2047 * 2 ^ 52 := by decide
  show _ ≤ _
  rw [UInt64.le_iff_toNat_le, h4, h5]
  exact Nat.le_of_lt (Nat.lt_of_lt_of_le h3 (by decide))
theorem fu_5 : ∃ k, FU = k + 1 + 1 + 1 + 1 + 1 := ⟨19995, rfl⟩
theorem tak_C (h : St lim n X k f z) (hN : 0 < kN X) (hN2 : kN X < 2147483648) : fX11_taken z = some (FP.ddiv (FP.i2d (nI (kS X).1)) (FP.i2d (nI (kN X))), z) := by
  obtain ⟨m, hm⟩ := fu_5
  have hp := h.1.1
  have q : ¬ nI (kN X) = (0 : Int32) := nI_ne0 hN hN2
  have w0 : zI z 512 2 (Int32.toNatClampNeg 0) 0 = nI (kS X).1 := h.1.2.2.1.1.1
  unfold fX11_taken
  rw [hm, fX11_taken_4, hp.r707, hp.i321_0_0, if_neg (by decide), if_pos (show gi 0 12 by decide), show zI z 449 (2, 0).1 (Int32.toNatClampNeg 0) 0 = 0 from hp.i449_0_0, if_pos rfl, if_pos (show gi 0 12 by decide), show zI z 512 (2, 0).1 (Int32.toNatClampNeg 0) 0 = nI (kS X).1 from w0, show (0 : Int32) + 1 = 1 by decide, Int32.zero_add]
  rw [fX11_taken_4, hp.r707, hp.i321_0_0, if_neg (by decide), if_pos (show gi 1 12 by decide), show zI z 449 (2, 0).1 (Int32.toNatClampNeg 1) 0 = 1 from hp.i449_1_0, if_neg (by decide), show (1 : Int32) + 1 = 2 by decide]
  rw [fX11_taken_4, hp.r707, hp.i321_0_0, if_neg (by decide), if_pos (show gi 2 12 by decide), show zI z 449 (2, 0).1 (Int32.toNatClampNeg 2) 0 = 1 from hp.i449_2_0, if_neg (by decide), show (2 : Int32) + 1 = 3 by decide]
  rw [fX11_taken_4, hp.r707, hp.i321_0_0, if_neg (by decide), if_pos (show gi 3 12 by decide), show zI z 449 (2, 0).1 (Int32.toNatClampNeg 3) 0 = 7 from hp.i449_3_0, if_neg (by decide), show (3 : Int32) + 1 = 4 by decide]
  rw [fX11_taken_4, hp.r707, hp.i321_0_0, if_pos (by decide), h.1.2.2.2.2.2.2.2.2.2, if_neg q, if_pos (n64_q q)]
end RDS
