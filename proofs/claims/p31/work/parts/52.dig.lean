/-! DIGEST -/
section DIG
variable {o z : Zs} {lim n k s w j : Nat} {X : Dk} {f : Nat → Rw} {t : Nat → Nat} {g : Nat → Nat → Int64}
theorem mx_41 (h : Tb z s w j t g) (hj : j ≤ 200) (hw : w ≤ 6) {x : Int64} {K : Int64 → Int32 → Zs → Option (Int64 × Zs)} {i : Nat} (hi : i < j) : ∀ (m y r : Nat) (a : Int64), y + m = w → m < r → fX8_mixedInto_41 2 s x K r a (nI i) (nI y) z = K (mx (g i) m y a) (nI (i + 1)) z := by
  obtain ⟨a1, a2, a3, a4⟩ := h
  intro m
  induction m with
  | zero =>
    intro y r a hy hr
    obtain ⟨r, rfl⟩ : ∃ r', r = r' + 1 := ⟨r - 1, by omega⟩
    rw [fX8_mixedInto_41, a2, if_pos ((n_le (by omega) (by omega)).mpr (by omega)), i_1, n_add]; rfl
  | succ m ih =>
    intro y r a hy hr
    obtain ⟨r, rfl⟩ : ∃ r', r = r' + 1 := ⟨r - 1, by omega⟩
    rw [fX8_mixedInto_41, a2, if_neg (fun q => absurd ((n_le (by omega) (by omega)).mp q) (by omega)), bq_e (tab_num a1 a2 hj hi hw (by omega)), i_1, n_add, a4 i y hi (by omega)]
    exact ih (y + 1) r _ (by omega) (by omega)
theorem mx_15 (h : Tb z s w j t g) (hj : j ≤ 200) (hw : w ≤ 6) {x : Int64} : ∀ (m y r : Nat) (a : Int64), y + m = j → m < r → fX8_mixedInto_15 2 s x r a (nI y) z = some (mxT t g w m y a, z) := by
  intro m
  induction m with
  | zero =>
    intro y r a hy hr
    obtain ⟨r, rfl⟩ : ∃ r', r = r' + 1 := ⟨r - 1, by omega⟩
    rw [fX8_mixedInto_15, h.1, if_pos ((n_le (by omega) (by omega)).mpr (by omega))]; rfl
  | succ m ih =>
    intro y r a hy hr
    obtain ⟨r, rfl⟩ : ∃ r', r = r' + 1 := ⟨r - 1, by omega⟩
    rw [fX8_mixedInto_15, h.1, if_neg (fun q => absurd ((n_le (by omega) (by omega)).mp q) (by omega)), bq_e (tab_time h.1 hj (by omega)), h.2.2.1 y (by omega), show (0 : Int32) = nI 0 from rfl, mx_41 h hj hw (by omega) w 0 FU _ (by omega) (by have : FU = 20000 := rfl; omega)]
    exact ih (y + 1) r _ (by omega) (by omega)
theorem mx_t (h : Tb z s w j t g) (hj : j ≤ 200) (hw : w ≤ 6) {x : Int64} : fX8_mixedInto 2 s x z = some (mxT t g w j 0 (x * 31 + (nI j).toInt64), z) := by
  unfold fX8_mixedInto
  rw [h.1]
  exact mx_15 h hj hw j 0 FU _ (by omega) (by have : FU = 20000 := rfl; omega)
theorem mx_r {p i : Nat} {r : Rw} (h : Rr z p i r) {x : Int64} : fX6_mixedInto p i x z = some (mx (rwJ r) 2 0 ((((((x * 31) + (zI z 387 p i 0).toInt64) * 31) + (zI z 388 p i 0).toInt64) * 31) + (nI r.1).toInt64), z) := by
  obtain ⟨m, hm⟩ := fu_3
  obtain ⟨a1, a2, a3, a4⟩ := h
  unfold fX6_mixedInto
  rw [hm, fX6_mixedInto_37, a2, if_neg (by decide), bq_e (show fX6_numberAt p i 0 z = some (zJ z 1410 p i 0, z) from row_num (j := 0) (by decide)), show (0 : Int32) + 1 = 1 by decide]
  rw [fX6_mixedInto_37, a2, if_neg (by decide), bq_e (show fX6_numberAt p i 1 z = some (zJ z 1410 p i 1, z) from row_num (j := 1) (by decide)), show (1 : Int32) + 1 = 2 by decide]
  rw [fX6_mixedInto_37, a2, if_pos (by decide), a1, a3, a4]
  rfl
theorem mx_126 (h : St lim n X k f z) (hk : (kH X).1 ≤ 60) : ∀ (m y r : Nat) (a : Int64), y + m = (kH X).1 → m < r → fX11_digest_126 r a (nI y) z = some (.ok (mxH (kH X).2 m y a), z) := by
  intro m
  induction m with
  | zero =>
    intro y r a hy hr
    obtain ⟨r, rfl⟩ : ∃ r', r = r' + 1 := ⟨r - 1, by omega⟩
    rw [fX11_digest_126, h.1.2.2.2.2.1.1, if_pos ((n_le (by omega) (by omega)).mpr (by omega))]; rfl
  | succ m ih =>
    intro y r a hy hr
    obtain ⟨r, rfl⟩ : ∃ r', r = r' + 1 := ⟨r - 1, by omega⟩
    obtain ⟨b1, b2, b3⟩ := h.1.2.2.2.2.1.2 y (by omega)
    rw [fX11_digest_126, h.1.2.2.2.2.1.1, if_neg (fun q => absurd ((n_le (by omega) (by omega)).mp q) (by omega)), if_pos ((n_gi (by omega)).mpr (by omega)), n_cl (by omega), h.1.1.held (by omega)]
    dsimp only
    rw [bq_e (mx_r b1), b2, b3, i_1, n_add]
    exact ih (y + 1) r _ (by omega) (by omega)
/-- the digest -/
def dig (n : Nat) (X : Dk) (k : Nat) : Int64 :=
  mxH (kH X).2 (kH X).1 0
    (mxT (fun i => ((kR X).2 i).2.1) (fun i j => wnJ n ((kR X).2 i) j) 4 (kR X).1 0 (((mxT (fun i => ((kB X).2 i).1) (fun i j => rwJ ((kB X).2 i) j) 2 (kB X).1 0 (((mxT (fun i => ((kA X).2 i).1) (fun i j => rwJ ((kA X).2 i) j) 2 (kA X).1 0 (((mxT (fun i => ((kS X).2 i).1) (fun i j => rwJ ((kS X).2 i) j) 2 (kS X).1 0 (((((((((((((((281 * 31 + (4 : Int32).toInt64) * 31) + (2 : Int32).toInt64) * 31) + (0 : Int32).toInt64) * 31) + (nI k).toInt64) * 31) + (0 : Int32).toInt64) * 31) + (nI (kH X).1).toInt64) * 31 + (0 : Int32).toInt64) * 31 + (0 : Int32).toInt64) * 31 + (wmI (kM X)).toInt64) * 31 + (nI (kS X).1).toInt64)) * 31 + (wmI (kM X)).toInt64) * 31 + (nI (kA X).1).toInt64)) * 31 + (wmI (kM X)).toInt64) * 31 + (nI (kB X).1).toInt64)) * 31 + (wmI (kM X)).toInt64) * 31 + (nI (kR X).1).toInt64))
theorem fu_7 : ∃ k, FU = k + 1 + 1 + 1 + 1 + 1 + 1 + 1 := ⟨19993, rfl⟩
theorem dig_C (h : St lim n X k f z) (hS : (kS X).1 ≤ 200) (hA : (kA X).1 ≤ 200) (hB : (kB X).1 ≤ 200) (hR : (kR X).1 ≤ 200) (hH : (kH X).1 ≤ 60) : fX11_digest z = some (.ok (dig n X k), z) := by
  obtain ⟨m, hm⟩ := fu_7
  obtain ⟨m5, hm5⟩ := fu_5
  have hp := h.1.1
  obtain ⟨t0, t1, t2, t3⟩ := h.1.2.2.1
  obtain ⟨u0, u1, u2, u3⟩ := h.1.2.2.2.2.2.1
  obtain ⟨⟨s0, s1, s2, s3⟩, _⟩ := h.1.2.1
  have c0 : fX11_count 0 z = some (.ok 4, z) := by unfold fX11_count; rw [if_pos rfl, hp.r707, hp.i321_0_0]
  have c1 : fX11_count 1 z = some (.ok 2, z) := by unfold fX11_count; rw [if_neg (by decide), if_pos rfl, hp.r707, hp.i323_0_0]
  have c2 : fX11_count 2 z = some (.ok 0, z) := by unfold fX11_count; rw [if_neg (by decide), if_neg (by decide), if_pos rfl, s2]
  have c3 : fX11_count 3 z = some (.ok (nI k), z) := by unfold fX11_count; rw [if_neg (by decide), if_neg (by decide), if_neg (by decide), if_pos rfl, h.2.1.1]
  have c4 : fX11_count 4 z = some (.ok 0, z) := by unfold fX11_count; rw [if_neg (by decide), if_neg (by decide), if_neg (by decide), if_neg (by decide), if_pos rfl, s3]
  have c5 := cnt5_C h
  unfold fX11_digest
  rw [hm, fX11_digest_6, if_neg (by decide), bx_e c0, show (0 : Int32) + 1 = 1 by decide]
  rw [fX11_digest_6, if_neg (by decide), bx_e c1, show (1 : Int32) + 1 = 2 by decide]
  rw [fX11_digest_6, if_neg (by decide), bx_e c2, show (2 : Int32) + 1 = 3 by decide]
  rw [fX11_digest_6, if_neg (by decide), bx_e c3, show (3 : Int32) + 1 = 4 by decide]
  rw [fX11_digest_6, if_neg (by decide), bx_e c4, show (4 : Int32) + 1 = 5 by decide]
  rw [fX11_digest_6, if_neg (by decide), bx_e c5, show (5 : Int32) + 1 = 6 by decide]
  rw [fX11_digest_6, if_pos (by decide), s1, if_pos rfl]
  unfold fX11_digest_50
  rw [s0, hm5]
  rw [fX11_digest_70, hp.r707, hp.i321_0_0, if_neg (by decide), if_pos (show gi 0 12 by decide), if_pos (show gi 0 12 by decide), show zI z 461 (2, 0).1 (Int32.toNatClampNeg 0) 0 = wmI (kM X) from u0, bq_e (show fX8_mixedInto (2, 0).1 (Int32.toNatClampNeg 0) _ z = _ from mx_t t0 hS (by decide)), show (0 : Int32) + 1 = 1 by decide]
  rw [fX11_digest_70, hp.r707, hp.i321_0_0, if_neg (by decide), if_pos (show gi 1 12 by decide), if_pos (show gi 1 12 by decide), show zI z 461 (2, 0).1 (Int32.toNatClampNeg 1) 0 = wmI (kM X) from u1, bq_e (show fX8_mixedInto (2, 0).1 (Int32.toNatClampNeg 1) _ z = _ from mx_t t1 hA (by decide)), show (1 : Int32) + 1 = 2 by decide]
  rw [fX11_digest_70, hp.r707, hp.i321_0_0, if_neg (by decide), if_pos (show gi 2 12 by decide), if_pos (show gi 2 12 by decide), show zI z 461 (2, 0).1 (Int32.toNatClampNeg 2) 0 = wmI (kM X) from u2, bq_e (show fX8_mixedInto (2, 0).1 (Int32.toNatClampNeg 2) _ z = _ from mx_t t2 hB (by decide)), show (2 : Int32) + 1 = 3 by decide]
  rw [fX11_digest_70, hp.r707, hp.i321_0_0, if_neg (by decide), if_pos (show gi 3 12 by decide), if_pos (show gi 3 12 by decide), show zI z 461 (2, 0).1 (Int32.toNatClampNeg 3) 0 = wmI (kM X) from u3, bq_e (show fX8_mixedInto (2, 0).1 (Int32.toNatClampNeg 3) _ z = _ from mx_t t3 hR (by decide)), show (3 : Int32) + 1 = 4 by decide]
  rw [fX11_digest_70, hp.r707, hp.i321_0_0, if_pos (by decide), show (0 : Int32) = nI 0 from rfl, mx_126 h hH (kH X).1 0 FU _ (by omega) (by have : FU = 20000 := rfl; omega)]
  rfl
end DIG
