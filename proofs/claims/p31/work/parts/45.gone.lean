/-! WINDOWS THAT CLOSE, WINDOWS THAT GO -/
/-- closes windows, each with a row -/
def clL (f : Nat → Wn) (k M : Nat) : Nat → (Nat → Bool) → Nat → (Nat → Wn) → (Nat → Bool) × Nat × (Nat → Wn)
  | 0, c, r, g => (c, r, g)
  | m + 1, c, r, g => if pck f c M k 0 0 = 0 then (c, r, g) else clL f k M m (pushF (pck f c M k 0 0 - 1) c true) (r + 1) (pushF r g (f (pck f c M k 0 0 - 1)))
/-- windows that stay -/
def rmg (M : Nat) : Nat → Nat → Nat → (Nat → Wn) → Nat × (Nat → Wn)
  | 0, a, _, f => (a, f)
  | m + 1, a, y, f => if (f y).2.1 < M then rmg M m a (y + 1) f else rmg M m (a + 1) (y + 1) (pushF a f (f y))
section GON
variable {o z : Zs} {lim n k M a y e1 e2 e3 m1 m2 m3 : Nat} {f : Nat → Wn} {c : Nat → Bool} {X : Dk}
theorem pushF_n {α : Type} {k i : Nat} {f : Nat → α} {x : α} (h : i ≠ k) : pushF k f x i = f i := if_neg h
theorem mv_O : Ot winl z (moveC z 2 3 y a) := ((((Ot.sJ rfl).tr (Ot.sI rfl)).tr (Ot.sI rfl)).tr (Ot.sI rfl)).tr (Ot.jJ rfl)
theorem mv_o {i : Nat} {u : Wn} {b : Bool} (h : Wf z i u b) (hi : i ≠ a) : Wf (moveC z 2 3 y a) i u b := by
  obtain ⟨a1, a2, a3, a4, a5, a6⟩ := h
  unfold moveC
  refine ⟨?_, ?_, ?_, ?_, ?_, ?_⟩
  · rw [zJ_jJ, if_neg (fun q => absurd q.1 (by decide))]
    show zJ (sJ z 1665 2 3 a (zJ z 1665 2 3 y)) 1665 2 3 i = _
    rw [zJ_sJ, if_neg (fun q => hi q.2.2.2)]; exact a1
  · rw [zI_jJ, sI_c (by decide), sI_c (by decide), zI_sI, if_neg (fun q => hi q.2.2.2)]; exact a2
  · rw [zI_jJ, sI_c (by decide), zI_sI, if_neg (fun q => hi q.2.2.2), sI_c (by decide)]; exact a3
  · rw [zI_jJ, zI_sI, if_neg (fun q => hi q.2.2.2), sI_c (by decide), sI_c (by decide)]; exact a4
  · rw [zJ_jJ, if_pos ⟨rfl, rfl, rfl⟩, if_neg (by omega)]; exact a5
  · rw [zJ_jJ, if_pos ⟨rfl, rfl, rfl⟩, if_neg (by omega)]; exact a6
theorem mv_s {u : Wn} {b : Bool} (h : Wf z y u b) : Wf (moveC z 2 3 y a) a u b := by
  obtain ⟨a1, a2, a3, a4, a5, a6⟩ := h
  unfold moveC
  refine ⟨?_, ?_, ?_, ?_, ?_, ?_⟩
  · rw [zJ_jJ, if_neg (fun q => absurd q.1 (by decide))]
    show zJ (sJ z 1665 2 3 a (zJ z 1665 2 3 y)) 1665 2 3 a = _
    rw [zJ_sJ, if_pos ⟨rfl, rfl, rfl, rfl⟩]; exact a1
  · rw [zI_jJ, sI_c (by decide), sI_c (by decide), zI_sI, if_pos ⟨rfl, rfl, rfl, rfl⟩]; exact a2
  · rw [zI_jJ, sI_c (by decide), zI_sI, if_pos ⟨rfl, rfl, rfl, rfl⟩]; exact a3
  · rw [zI_jJ, zI_sI, if_pos ⟨rfl, rfl, rfl, rfl⟩]; exact a4
  · rw [zJ_jJ, if_pos ⟨rfl, rfl, rfl⟩, if_pos (by omega), Nat.sub_self]; exact a5
  · rw [zJ_jJ, if_pos ⟨rfl, rfl, rfl⟩, if_pos (by omega), show a * 4 + 1 - a * 4 = 1 by omega]; exact a6
theorem rmg_C (hk : k ≤ 60) (hM : M < 1073741824) : ∀ (m a y r : Nat) (z : Zs) (f : Nat → Wn) (c : Nat → Bool), y + m = k → m < r → a ≤ y → zI z 640 2 3 0 = nI k → (∀ i, i < a → Wf z i (f i) false) → (∀ i, y ≤ i → i < k → Wf z i (f i) (c i) ∧ (f i).2.1 < 1073741824 ∧ (M ≤ (f i).2.1 → c i = false)) → ∃ x, fX10_removeGone_5 2 3 (wmI M) 0 r (nI a) (nI y) z = some ((), x) ∧ Ot winl z x ∧ Ws x (rmg M m a y f).1 (rmg M m a y f).2 (fun _ => false) := by
  intro m
  induction m with
  | zero =>
    intro a y r z f c hy hr ha h640 h1 h2
    obtain ⟨r, rfl⟩ : ∃ r', r = r' + 1 := ⟨r - 1, by omega⟩
    refine ⟨sI z 640 2 3 0 (nI a), ?_, Ot.sI rfl, ?_, fun i hi => ?_⟩
    · unfold fX10_removeGone_5
      rw [h640, if_pos ((n_le (by omega) (by omega)).mpr (by omega)), lt_k]
    · rw [zI_sI, if_pos ⟨rfl, rfl, rfl, rfl⟩]; rfl
    · exact h1 i hi
  | succ m ih =>
    intro a y r z f c hy hr ha h640 h1 h2
    obtain ⟨r, rfl⟩ : ∃ r', r = r' + 1 := ⟨r - 1, by omega⟩
    obtain ⟨w, hB, hc0⟩ := h2 y (Nat.le_refl _) (by omega)
    have hc : (nI y).toNatClampNeg = y := n_cl (by omega)
    have b2 : zI z 1666 2 3 (nI y).toNatClampNeg = nI (f y).2.1 := by rw [hc]; exact w.2.1
    have gy : gi (nI y) 60 := (n_gi (by omega)).mpr (by omega)
    have e0 : nI (f y).2.1 + 0 = nI (f y).2.1 := n_add _ 0
    unfold fX10_removeGone_5
    rw [h640, if_neg (fun q => absurd ((n_le (by omega) (by omega)).mp q) (by omega)), i_60, if_neg (fun q => absurd ((n_le (by omega) (by omega)).mp q) (by omega)), if_pos gy, b2, e0]
    by_cases q : (f y).2.1 < M
    · rw [if_pos ((wm_le hM hB).mpr (by omega)), i_1, n_add, show rmg M (m + 1) a y f = rmg M m a (y + 1) f from if_pos q]
      exact ih a (y + 1) r z f c (by omega) (by omega) (by omega) h640 h1 (fun i hi hi2 => h2 i (by omega) hi2)
    · rw [if_neg (fun w => q (by have := (wm_le hM hB).mp w; omega)), show rmg M (m + 1) a y f = rmg M m (a + 1) (y + 1) (pushF a f (f y)) from if_neg q]
      have hcy := hc0 (by omega)
      rw [hcy] at w
      rw [bq_e (mv_C (cl := 0) (by omega) ha w.2.2.1 (by omega)), i_1, n_add, n_add]
      obtain ⟨x, x1, x2, x3⟩ := ih (a + 1) (y + 1) r (moveC z 2 3 y a) (pushF a f (f y)) c (by omega) (by omega) (by omega) (show zI (moveC z 2 3 y a) 640 2 3 0 = nI k from h640) (fun i hi => by
        by_cases e : i = a
        · rw [e, pushF_s]; exact mv_s w
        · rw [pushF_n e]; exact mv_o (h1 i (by omega)) e) (fun i hi hi2 => by
        rw [pushF_n (by omega)]
        obtain ⟨g1, g2, g3⟩ := h2 i (by omega) hi2
        exact ⟨mv_o g1 (by omega), g2, g3⟩)
      exact ⟨x, x1, mv_O.tr x2, x3⟩
theorem Dc.flag {w : Nat} (h : Dc o c lim n X e1 e2 e3 m1 m2 m3 z) : Dc o (pushF w c true) lim n X e1 e2 e3 m1 m2 m3 (sI z 1667 2 3 w 1) := by
  obtain ⟨p, sc, ⟨t0, t1, t2, t3⟩, ⟨w1, w2⟩, hh, ⟨a0, a1, a2, a3⟩, ⟨b1, b2, b3⟩, c0, c1, c2⟩ := h
  have k : Ot [(1667, 2)] z (sI z 1667 2 3 w 1) := Ot.sI rfl
  refine ⟨p.ot k rfl, sc.ot k rfl, ⟨t0.ot k rfl, t1.ot k rfl, t2.ot k rfl, t3.ot k rfl⟩, ⟨(k.I rfl).trans w1, fun i hi => ?_⟩, hh.ot k rfl, ⟨(k.I rfl).trans a0, (k.I rfl).trans a1, (k.I rfl).trans a2, (k.I rfl).trans a3⟩, ⟨(k.I rfl).trans b1, (k.I rfl).trans b2, (k.I rfl).trans b3⟩, (k.I rfl).trans c0, (k.I rfl).trans c1, (k.I rfl).trans c2⟩
  obtain ⟨g1, g2, g3, g4, g5, g6⟩ := w2 i hi
  refine ⟨g1, (k.I rfl).trans g2, ?_, (k.I rfl).trans g4, g5, g6⟩
  rw [zI_sI]
  by_cases e : i = w
  · rw [if_pos ⟨rfl, rfl, rfl, e⟩, e, pushF_s, if_pos rfl]
  · rw [if_neg (fun q => e q.2.2.2), pushF_n e]; exact g3
/-- the row of a window that closes -/
theorem row_W {w b : Nat} {u : Wn} (h640 : zI z 640 2 3 0 = nI k) (hk : k ≤ 60) (hw : w < k) (h : Wf z w u true) (hb : u.2.1 = b + n) (hb2 : b + n < 2147483648) : ∃ x, fX10_copyTo 2 3 (nI w) (nI n) (nI (4 - 2)) 2 0 z = some ((), x) ∧ Ot [(384, 2), (385, 2), (1410, 2)] z x ∧ zI x 384 2 0 0 = nI u.2.1 ∧ ∀ j, j < 4 → zJ x 1410 2 0 j = wnJ n u j := by
  obtain ⟨a1, a2, a3, a4, a5, a6⟩ := h
  refine ⟨_, win_copy (W := 4) (b := b) h640 hk hw (by decide) (by decide) (by rw [a2, hb]) hb2, Ot.row (p := 2) rfl, ?_, fun j hj => ?_⟩
  · rw [zI_wRow, if_pos ⟨rfl, rfl, rfl, rfl⟩, hb]
  · rw [zJ_wRow, if_pos ⟨rfl, rfl, rfl⟩]
    unfold wnF wnJ
    match j, hj with
    | 0, _ => rw [if_neg (by decide), if_neg (by decide), if_pos rfl, if_pos rfl, a1]
    | 1, _ => rw [if_neg (by decide), if_pos rfl, if_neg (by decide), if_pos rfl, hb, Nat.add_sub_cancel]
    | 2, _ => rw [if_pos (by decide), if_neg (by decide), if_neg (by decide), if_pos rfl]; exact a5
    | 3, _ => rw [if_pos (by decide), if_neg (by decide), if_neg (by decide), if_neg (by decide)]; exact a6
    | q + 4, hj => exact absurd hj (by omega)
theorem cl_C (hk : (kW X).1 ≤ 60) (hn : 0 < n) (hB : ∀ i, i < (kW X).1 → n ≤ ((kW X).2 i).2.1 ∧ ((kW X).2 i).2.1 < 1073741824) (hM : m3 < 1073741824) : ∀ (m y r : Nat) (z : Zs) (c : Nat → Bool) (R : Nat × (Nat → Wn)), y + m = 60 → m < r → R.1 + m ≤ 200 → Dc o c lim n (sRw X R) e1 e2 e3 m1 m2 m3 z → ∃ x d, Dc o (clL (kW X).2 (kW X).1 m3 m c R.1 R.2).1 lim n (sRw X (clL (kW X).2 (kW X).1 m3 m c R.1 R.2).2) e1 e2 e3 m1 m2 m3 x ∧ zI x 70 0 0 0 = zI z 70 0 0 0 + nI d ∧ d ≤ m ∧ fX1_closeWindows_2 3 2 3 r (nI y) z = bq (fX10_removeGone 2 3 (wmI m3) 0 x) fun _ σ => some ((), σ) := by
  intro m
  induction m with
  | zero =>
    intro y r z c R hy hr hR h
    obtain ⟨r, rfl⟩ : ∃ r', r = r' + 1 := ⟨r - 1, by omega⟩
    refine ⟨z, 0, h, (Int32.add_zero _).symm, Nat.le_refl _, ?_⟩
    unfold fX1_closeWindows_2
    rw [i_60, if_pos ((n_le (by omega) (by omega)).mpr (by omega)), h.2.2.2.2.2.1.2.2.2, h.1.i456_3_0]
  | succ m ih =>
    intro y r z c R hy hr hR h
    obtain ⟨r, rfl⟩ : ∃ r', r = r' + 1 := ⟨r - 1, by omega⟩
    have hW : Ws z (kW X).1 (kW X).2 c := h.2.2.2.1
    have hc : fX10_closeNext 2 3 (wmI m3) z = pckR z (pck (kW X).2 c m3 (kW X).1 0 0) := by
      have := pck_C hW hk (fun i hi => (hB i hi).2) hM (kW X).1 0 0 FU (by omega) (by have : FU = 20000 := rfl; omega) (by omega)
      rw [wm_0] at this
      exact this
    have hle := pck_le (f := (kW X).2) (c := c) (M := m3) (kW X).1 0 0 (Nat.le_refl _)
    unfold fX1_closeWindows_2
    rw [i_60, if_neg (fun q => absurd ((n_le (by omega) (by omega)).mp q) (by omega)), h.2.2.2.2.2.1.2.2.2]
    by_cases q : pck (kW X).2 c m3 (kW X).1 0 0 = 0
    · refine ⟨z, 0, by rw [show clL (kW X).2 (kW X).1 m3 (m + 1) c R.1 R.2 = (c, R.1, R.2) from if_pos q]; exact h, (Int32.add_zero _).symm, Nat.zero_le _, ?_⟩
      rw [q] at hc
      rw [bq_e (show fX10_closeNext 2 3 (wmI m3) z = some (-1, z) from hc), if_neg (by decide), h.2.2.2.2.2.1.2.2.2, h.1.i456_3_0]
    · rw [show clL (kW X).2 (kW X).1 m3 (m + 1) c R.1 R.2 = clL (kW X).2 (kW X).1 m3 m (pushF (pck (kW X).2 c m3 (kW X).1 0 0 - 1) c true) (R.1 + 1) (pushF R.1 R.2 ((kW X).2 (pck (kW X).2 c m3 (kW X).1 0 0 - 1))) from if_neg q]
      generalize hw : pck (kW X).2 c m3 (kW X).1 0 0 - 1 = w
      have hwk : w < (kW X).1 := by omega
      have hc' : fX10_closeNext 2 3 (wmI m3) z = some (nI w, sI z 1667 2 3 w 1) := by rw [hc]; unfold pckR; rw [if_neg q, hw]
      have h1 := h.flag (w := w)
      obtain ⟨hn1, hn2⟩ := hB w hwk
      have f1 := h1.2.2.2.1.2 w hwk
      rw [pushF_s] at f1
      obtain ⟨x1, g1, g2, g3, g4⟩ := row_W (z := sI z 1667 2 3 w 1) (w := w) (n := n) (b := ((kW X).2 w).2.1 - n) (u := (kW X).2 w) h1.2.2.2.1.1 hk hwk f1 (by omega) (by omega)
      have h2 : Dc o (pushF w c true) lim n (sRw X R) e1 e2 e3 m1 m2 m3 x1 := h1.ot g2 rfl rfl
      have h3 := (h2.tR (p1 := 2) (s1 := 0) g3 g4).s70 (v := zI x1 70 0 0 0 + 1)
      have hg := give_o (p2 := 2) (s2 := 0) h2.1 (s := 3) (by decide) (by decide) (k := R.1) (by omega) h2.2.2.1.2.2.2.1
      obtain ⟨x, d, d1, d2, d3, d4⟩ := ih (y + 1) r _ (pushF w c true) (R.1 + 1, pushF R.1 R.2 ((kW X).2 w)) (by omega) (by omega) (by show R.1 + 1 + m ≤ 200; omega) h3
      refine ⟨x, d + 1, d1, ?_, by omega, ?_⟩
      · rw [d2, zI_sI, if_pos ⟨rfl, rfl, rfl, rfl⟩, g2.I rfl, ← n_add]
        show zI z 70 0 0 0 + 1 + nI d = zI z 70 0 0 0 + (nI d + nI 1)
        rw [Int32.add_assoc, Int32.add_comm 1]; rfl
      · rw [bq_e hc', if_pos (show (0 : Int32) ≤ nI w from (n_le (a := 0) (by omega) (by omega)).mpr (by omega)), h1.1.i455_3_0, h1.1.i450_3_0, bq_e (show fX10_copyTo 2 3 (nI w) (nI n) (4 - 2) 2 0 (sI z 1667 2 3 w 1) = some ((), x1) from g1), bq_e (show fX1_give 3 2 0 x1 = _ from hg), i_1, n_add]
        exact d4
end GON
