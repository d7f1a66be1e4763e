/-! .. ALL OF IT -/
section ENW
variable {o z z1 : Zs} {lim n e1 e2 e3 m1 m2 m3 k k1 w sz b e : Nat} {X : Dk}
theorem cnt_C (h : zI z1 640 2 3 0 = nI k1) (hw : w < k1) (hk : k1 ≤ 60) (h4 : zI z1 1668 2 3 w = nI sz) : fX10_countRow 2 3 (nI w) z1 = some ((), sI z1 1668 2 3 w (nI (sz + 1))) := by
  have hc : (nI w).toNatClampNeg = w := n_cl (by omega)
  have g : gi (nI w) 60 := (n_gi (by omega)).mpr (by omega)
  unfold fX10_countRow
  rw [if_neg (m1_lt (by omega)), h, if_neg (fun q => absurd ((n_le (by omega) (by omega)).mp q) (by omega)), if_pos g, if_pos g, hc, h4, lt_k, i_1, n_add]
theorem ent_at (hp : PF lim n z1) (h640 : zI z1 640 2 3 0 = nI k1) (hw : w < k1) (hk : k1 ≤ 60) (h4 : zI z1 1668 2 3 w = nI sz) (hsz : sz < 1000000) (he : zI z1 1666 2 3 w = nI (b + n)) (hbn : b + n < 2147483648) :
    ∃ y, Ot ckS (sJ (sI z1 1668 2 3 w (nI (sz + 1))) 1669 2 3 (w * 4) (lN (sz + 1))) y ∧ ∃ x, Ot [(384, 2), (385, 2), (1410, 2)] (sJ y 1669 2 3 (w * 4 + 1) (tot 22 (sz + 1) (zJ z1 1669 2 3 (w * 4 + 1)) (zJ z1 1410 0 0 1))) x ∧ (bq (fX10_countRow 2 3 (nI w) z1) fun _ σ => fX1_enterWindow_147 3 0 FU 2 3 0 2 3 (nI w) 2 σ) = some (0, x) := by
  obtain ⟨m, hm⟩ := fu_3
  have p2 : PF lim n (sI z1 1668 2 3 w (nI (sz + 1))) := hp.sI rfl
  have a1 := add_C (σ := sI z1 1668 2 3 w (nI (sz + 1))) (P := 2) (s := 3) (w := w) (y := 2) (k := k1) (z := sz + 1) (p := 23) (v := 0) hw hk h640 (by rw [zI_sI, if_pos ⟨rfl, rfl, rfl, rfl⟩]) (by omega) (by decide) (by decide) (by decide) (by decide)
  have p3 : PF lim n (sJ (sI z1 1668 2 3 w (nI (sz + 1))) 1669 2 3 (w * 4) (lN (sz + 1))) := p2.sJ rfl
  obtain ⟨y, t1, t2⟩ := ex_t (p := 0) (s := 0) p3
  have p4 := p3.ot t2 rfl
  have v1 : zJ (sJ (sI z1 1668 2 3 w (nI (sz + 1))) 1669 2 3 (w * 4) (lN (sz + 1))) 1410 0 0 1 = zJ z1 1410 0 0 1 := sJ_c (by decide)
  have y640 : zI y 640 2 3 0 = nI k1 := (t2.I rfl).trans h640
  have ys : zI y 1668 2 3 w = nI (sz + 1) := (t2.I rfl).trans (by
    show zI (sI z1 1668 2 3 w (nI (sz + 1))) 1668 2 3 w = _
    rw [zI_sI, if_pos ⟨rfl, rfl, rfl, rfl⟩])
  have yv : zJ y 1669 2 3 (w * 4 + 1) = zJ z1 1669 2 3 (w * 4 + 1) := (t2.J rfl).trans (by
    rw [zJ_sJ, if_neg (fun q => absurd q.2.2.2 (by omega))]; rfl)
  have a2 := add_C (σ := y) (P := 2) (s := 3) (w := w) (y := 3) (k := k1) (z := sz + 1) (p := 22) (v := zJ z1 1410 0 0 1) hw hk y640 ys (by omega) (by decide) (by decide) (by decide) (by decide)
  have p5 : PF lim n (sJ y 1669 2 3 (w * 4 + 1) (tot 22 (sz + 1) (zJ z1 1669 2 3 (w * 4 + 1)) (zJ z1 1410 0 0 1))) := p4.sJ rfl
  obtain ⟨x, c3, hx⟩ : ∃ x, fX10_copyTo 2 3 (nI w) (nI n) (nI (4 - 2)) 2 0 (sJ y 1669 2 3 (w * 4 + 1) (tot 22 (sz + 1) (zJ z1 1669 2 3 (w * 4 + 1)) (zJ z1 1410 0 0 1))) = some ((), x) ∧ Ot [(384, 2), (385, 2), (1410, 2)] (sJ y 1669 2 3 (w * 4 + 1) (tot 22 (sz + 1) (zJ z1 1669 2 3 (w * 4 + 1)) (zJ z1 1410 0 0 1))) x := ⟨_, win_copy (k := k1) (W := 4) (b := b) (n := n) y640 hk hw (by decide) (by decide) ((show zI y 1666 2 3 w = _ from t2.I rfl).trans he) hbn, Ot.row (p := 2) rfl⟩
  refine ⟨y, t2, x, hx, ?_⟩
  have c2 : zI (sI z1 1668 2 3 w (nI (sz + 1))) 1483 2 3 (Int32.toNatClampNeg 2) = 151 := p2.i1483_3_2
  have c4 : zI (sJ (sI z1 1668 2 3 w (nI (sz + 1))) 1669 2 3 (w * 4) (lN (sz + 1))) 1483 2 3 (Int32.toNatClampNeg 3) = 150 := p3.i1483_3_3
  have c5 : zI y 1483 2 3 (Int32.toNatClampNeg 3) = 150 := p4.i1483_3_3
  rw [bq_e (cnt_C h640 hw hk h4), hm]
  rw [fX1_enterWindow_147, p2.i450_3_0, if_neg (by decide), if_neg (by decide), if_pos (show gi 2 6 by decide), c2, if_pos rfl]
  unfold fX1_enterWindow_205
  rw [if_pos (show gi 2 6 by decide), c2]
  rw [bq_e (show fX10_addTo 2 3 (nI w) (2 - 2) 151 0 (sI z1 1668 2 3 w (nI (sz + 1))) = some ((), sJ (sI z1 1668 2 3 w (nI (sz + 1))) 1669 2 3 (w * 4) (lN (sz + 1))) from a1), show (2 : Int32) + 1 = 3 by decide]
  show fX1_enterWindow_147 3 0 (m + 1 + 1) 2 3 0 2 3 (nI w) 3 _ = some (0, x)
  rw [fX1_enterWindow_147, p3.i450_3_0, if_neg (by decide), if_neg (by decide), if_pos (show gi 3 6 by decide), c4, if_neg (by decide), if_pos (show gi 3 6 by decide), if_pos (show gi 3 6 by decide), p3.r64]
  rw [bq_e (show fX5_reckon (2, 0).1 (zI (sJ (sI z1 1668 2 3 w (nI (sz + 1))) 1669 2 3 (w * 4) (lN (sz + 1))) 1481 (2, 0).1 3 (Int32.toNatClampNeg 3)) (zI (sJ (sI z1 1668 2 3 w (nI (sz + 1))) 1669 2 3 (w * 4) (lN (sz + 1))) 1482 (2, 0).1 3 (Int32.toNatClampNeg 3)) 0 0 (sJ (sI z1 1668 2 3 w (nI (sz + 1))) 1669 2 3 (w * 4) (lN (sz + 1))) = some (zJ z1 1410 0 0 1, y) from by rw [show zI (sJ (sI z1 1668 2 3 w (nI (sz + 1))) 1669 2 3 (w * 4) (lN (sz + 1))) 1481 (2, 0).1 3 (Int32.toNatClampNeg 3) = 7 from p3.i1481_3_3, show zI (sJ (sI z1 1668 2 3 w (nI (sz + 1))) 1669 2 3 (w * 4) (lN (sz + 1))) 1482 (2, 0).1 3 (Int32.toNatClampNeg 3) = 8 from p3.i1482_3_3, ← v1]; exact t1)]
  unfold fX1_enterWindow_205
  rw [if_pos (show gi 3 6 by decide), c5]
  rw [bq_e (show fX10_addTo 2 3 (nI w) (3 - 2) 150 (zJ z1 1410 0 0 1) y = some ((), sJ y 1669 2 3 (w * 4 + 1) (tot 22 (sz + 1) (zJ z1 1669 2 3 (w * 4 + 1)) (zJ z1 1410 0 0 1))) from by rw [← yv]; exact a2), show (3 : Int32) + 1 = 4 by decide]
  show fX1_enterWindow_147 3 0 (m + 1) 2 3 0 2 3 (nI w) 4 _ = some (0, x)
  rw [fX1_enterWindow_147, p5.i450_3_0, if_pos (by decide)]
  unfold fX1_enterWindow_233
  rw [p5.i455_3_0, p5.i450_3_0, show (4 : Int32) - 2 = nI (4 - 2) by decide, bq_e c3, if_pos rfl, if_pos rfl]
/-- windows when a row has come -/
def wnk (k : Nat) (f : Nat → Wn) (key : Int64) (e : Nat) (v : Int64) : Nat × (Nat → Wn) := if plc f key e k 0 = k then (k + 1, pushF k f (key, e, 1, v)) else (k, pushF (plc f key e k 0) f (key, e, (f (plc f key e k 0)).2.2.1 + 1, tot 22 ((f (plc f key e k 0)).2.2.1 + 1) (f (plc f key e k 0)).2.2.2 v))
def enl : List (Nat × Nat) := [(640, 2), (1665, 2), (1666, 2), (1667, 2), (1668, 2), (1669, 2), (1351, 2), (384, 2), (385, 2), (1410, 2)]
theorem Dx.win {y : Zs} {p : Nat × (Nat → Wn)} (h : Dx o lim n X e1 e2 e3 m1 m2 m3 z) (k : Ot enl z y) (hw : Ws y p.1 p.2 (fun _ => false)) : Dx o lim n (sWn X p) e1 e2 e3 m1 m2 m3 y := by
  obtain ⟨p, sc, ⟨t0, t1, t2, t3⟩, w, hh, ⟨a0, a1, a2, a3⟩, ⟨b1, b2, b3⟩, c0, c1, c2⟩ := h
  exact ⟨p.ot k rfl, sc.ot k rfl, ⟨t0.ot k rfl, t1.ot k rfl, t2.ot k rfl, t3.ot k rfl⟩, hw, hh.ot k rfl, ⟨(k.I rfl).trans a0, (k.I rfl).trans a1, (k.I rfl).trans a2, (k.I rfl).trans a3⟩, ⟨(k.I rfl).trans b1, (k.I rfl).trans b2, (k.I rfl).trans b3⟩, (k.I rfl).trans c0, (k.I rfl).trans c1, (k.I rfl).trans c2⟩
theorem ent_90 (h : Dx o lim n X e1 e2 e3 m1 m2 m3 z) (hk : (kW X).1 < 60) (hB : ∀ i, i < (kW X).1 → ((kW X).2 i).2.1 < 1073741824 ∧ ((kW X).2 i).2.2.1 < 1000000) (he : e = b + n) (he2 : e < 1073741824) : ∃ y, fX1_enterWindow_90 3 0 2 3 (nI e) 0 z = some (0, y) ∧ Dx o lim n (sWn X (wnk (kW X).1 (kW X).2 (zJ z 1410 0 0 0) e (zJ z 1410 0 0 1))) e1 e2 e3 m1 m2 m3 y ∧ Ot enl z y := by
  have hp : PF lim n z := h.1
  have hW : Ws z (kW X).1 (kW X).2 (fun _ => false) := h.2.2.2.1
  have hpl := plc_C (key := zJ z 1410 0 0 0) (e := e) hW (by omega) (fun i hi => (hB i hi).1) he2 (kW X).1 0 FU (by omega) (by have : FU = 20000 := rfl; omega)
  generalize (kW X).1 = k at *
  generalize (kW X).2 = f at *
  generalize hx : zJ z 1410 0 0 0 = key at *
  generalize hv : zJ z 1410 0 0 1 = v at *
  have hs : ∀ w sz (z1 y x : Zs) (S : Int64), Ot winl z z1 → Ot ckS (sJ (sI z1 1668 2 3 w (nI (sz + 1))) 1669 2 3 (w * 4) (lN (sz + 1))) y → Ot [(384, 2), (385, 2), (1410, 2)] (sJ y 1669 2 3 (w * 4 + 1) S) x → Ot enl z x := fun w sz z1 y x S k1 k2 k3 => (((((k1.mono rfl).tr (Ot.sI rfl)).tr (Ot.sJ rfl)).tr (k2.mono rfl)).tr (Ot.sJ rfl)).tr (k3.mono rfl)
  unfold fX1_enterWindow_90
  rw [hp.i453_3_0, bq_e (show fX6_numberAt 0 0 0 z = some (key, z) from by rw [← hx]; exact row_num (j := 0) (by decide))]
  by_cases q : plc f key e k 0 = k
  · rw [if_pos q, new_C hW.1 hk] at hpl
    rw [bq_e (show fX10_placeFor 2 3 key (nI e) 0 z = _ from hpl), if_pos (show (0 : Int32) ≤ nI k from (n_le (a := 0) (by omega) (by omega)).mpr (by omega))]
    obtain ⟨n640, no, n1, n2, n3, n4⟩ := new_W (key := key) (e := e) hW
    obtain ⟨y, y1, x, x1, x2⟩ := ent_at (k1 := k + 1) (w := k) (sz := 0) (b := b) (hp.ot new_O rfl) n640 (by omega) (by omega) n4 (by omega) (by rw [n2, he]) (by omega)
    refine ⟨x, x2, Dx.win h (hs _ _ _ _ _ _ new_O y1 x1) ?_, hs _ _ _ _ _ _ new_O y1 x1⟩
    unfold wnk
    rw [if_pos q]
    have hS : tot 22 (0 + 1) (zJ (newC z k key e) 1669 2 3 (k * 4 + 1)) (zJ (newC z k key e) 1410 0 0 1) = v := by
      unfold tot
      rw [if_neg (by decide), if_pos rfl]
      exact hv
    rw [hS] at x1
    exact (bmp_W (f := f) (u := (key, e, 0, 0)) n640 (fun i hi hne => no i (by omega)) n1 n2 n3 y1).ot x1 rfl
  · have hl : plc f key e k 0 < k := by have := plc_le (f := f) (key := key) (e := e) k 0; omega
    obtain ⟨m1, m2⟩ := plc_m (f := f) (key := key) (e := e) k 0 (by omega)
    rw [if_neg q] at hpl
    rw [bq_e (show fX10_placeFor 2 3 key (nI e) 0 z = _ from hpl), if_pos (show (0 : Int32) ≤ nI (plc f key e k 0) from (n_le (a := 0) (by omega) (by omega)).mpr (by omega))]
    unfold wnk
    rw [if_neg q]
    generalize plc f key e k 0 = w at *
    obtain ⟨a1, a2, a3, a4, a5, a6⟩ := hW.2 w hl
    obtain ⟨y, y1, x, x1, x2⟩ := ent_at (k1 := k) (w := w) (sz := (f w).2.2.1) (b := b) hp hW.1 hl (by omega) a4 (hB w hl).2 (by rw [a2, m2, he]) (by omega)
    refine ⟨x, x2, Dx.win h (hs _ _ _ _ _ _ Ot.rf y1 x1) ?_, hs _ _ _ _ _ _ Ot.rf y1 x1⟩
    rw [hv, a6] at x1
    exact (bmp_W (f := f) (u := (key, e, 0, 0)) hW.1 (fun i hi hne => hW.2 i hi) (a1.trans m1) (by rw [a2, m2]) a3 y1).ot x1 rfl
/-- a row comes: late, or to its window -/
theorem ent_ok (h : Dx o lim n X e1 e2 e3 m1 m2 m3 z) (hn : 0 < n) (hn2 : n ≤ 1000) {t : Nat} (ht : zI z 384 0 0 0 = nI t) (ht2 : t < 1000000) (hm3 : m3 < 1073741824) (ha : m3 ≤ t / n * n + n) (hk : (kW X).1 < 60) (hB : ∀ i, i < (kW X).1 → ((kW X).2 i).2.1 < 1073741824 ∧ ((kW X).2 i).2.2.1 < 1000000) : ∃ y, fX1_enterWindow 3 0 z = some (0, y) ∧ Dx o lim n (sWn X (wnk (kW X).1 (kW X).2 (zJ z 1410 0 0 0) (t / n * n + n) (zJ z 1410 0 0 1))) e1 e2 e3 m1 m2 m3 y ∧ Ot enl z y := by
  have hp : PF lim n z := h.1
  have hb := Nat.div_mul_le_self t n
  have h461 : zI z 461 2 3 0 = wmI m3 := h.2.2.2.2.2.1.2.2.2
  have c4 : wmI m3 < nI (t / n * n + n) := (wm_lt hm3 (by omega)).mpr ha
  obtain ⟨y, y1, y2, y3⟩ := ent_90 (b := t / n * n) h hk hB rfl (by omega)
  refine ⟨y, ?_, y2, y3⟩
  unfold fX1_enterWindow
  rw [if_pos (show gi 3 12 by decide), hp.r64, show Int32.toNatClampNeg 3 = 3 from rfl, hp.i455_3_0, if_pos (show (0 : Int32) < nI n from nI_lt (a := 0) (b := n) hn (by omega)), if_pos (nI_ne0 hn (by omega)), if_pos rfl, ht, end_C (by omega) hn (by omega), hp.i456_3_0, h461, show nI (t / n * n + n) + 0 = nI (t / n * n + n) from n_add _ 0, if_pos c4, if_pos c4]
  exact y1
theorem ent_late (h : Dx o lim n X e1 e2 e3 m1 m2 m3 z) (hn : 0 < n) (hn2 : n ≤ 1000) {t : Nat} (ht : zI z 384 0 0 0 = nI t) (hw : zI z 385 0 0 0 = nI 2) (ht2 : t < 1000000) (hm3 : m3 < 1073741824) (ha : ¬ m3 ≤ t / n * n + n) (hk : (kH X).1 < 60) : ∃ y, fX1_enterWindow 3 0 z = some (0, y) ∧ Dx o lim n (sH X ((kH X).1 + 1, pushF (kH X).1 (kH X).2 (true, (t, zJ z 1410 0 0 0, zJ z 1410 0 0 1)))) e1 e2 e3 m1 m2 m3 y ∧ Ot [(384, 4), (385, 4), (1410, 4), (387, 4), (388, 4), (66, 0)] z y := by
  have hp : PF lim n z := h.1
  have hb := Nat.div_mul_le_self t n
  have h461 : zI z 461 2 3 0 = wmI m3 := h.2.2.2.2.2.1.2.2.2
  have c4 : ¬ wmI m3 < nI (t / n * n + n) := fun q => ha ((wm_lt hm3 (by omega)).mp q)
  refine ⟨holdC z (kH X).1 0 0 3 (-1) (kH X).1, ?_, h.hold (b := true) (r := (t, zJ z 1410 0 0 0, zJ z 1410 0 0 1)) rfl rfl ht hw rfl rfl, Ot.holdC rfl⟩
  unfold fX1_enterWindow
  rw [if_pos (show gi 3 12 by decide), hp.r64, show Int32.toNatClampNeg 3 = 3 from rfl, hp.i455_3_0, if_pos (show (0 : Int32) < nI n from nI_lt (a := 0) (b := n) hn (by omega)), if_pos (nI_ne0 hn (by omega)), if_pos rfl, ht, end_C (by omega) hn (by omega), hp.i456_3_0, h461, show nI (t / n * n + n) + 0 = nI (t / n * n + n) from n_add _ 0, if_neg c4]
  rw [bq_e (hold_C hk h.2.2.2.2.1.1 (hp.held hk) (by decide))]
end ENW
