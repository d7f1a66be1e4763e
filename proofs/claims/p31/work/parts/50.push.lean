/-! A PUSH FROM OUTSIDE -/
theorem bx_e {α β : Type} {o : Option (Except String α × Zs)} {w : α} {z : Zs} {k : α → Zs → Option (Except String β × Zs)} (e : o = some (.ok w, z)) : bx o k = k w z := by subst e; rfl
/-- room -/
def Rm (n : Nat) (X : Dk) : Prop := (kS X).1 < 100 ∧ (kA X).1 < 100 ∧ (kB X).1 < 100 ∧ (kH X).1 < 59 ∧ (kW X).1 < 60 ∧ (kR X).1 ≤ 140 ∧ kM X < 1000000 ∧ Wb n (kW X)
/-- the desk between two calls: X, and the log -/
def St (lim n : Nat) (X : Dk) (k : Nat) (f : Nat → Rw) (z : Zs) : Prop := Dx z lim n X (kS X).1 (kS X).1 (kS X).1 (kM X) (kM X) (kM X) z ∧ Lg z k f ∧ zI z 385 3 0 0 = 0
/-- .. with a row of w numbers on its way -/
def Sv (lim n : Nat) (X : Dk) (k : Nat) (f : Nat → Rw) (w : Nat) (g : Nat → Int64) (z : Zs) : Prop := Dx z lim n X (kS X).1 (kS X).1 (kS X).1 (kM X) (kM X) (kM X) z ∧ Lg z k f ∧ zI z 385 3 0 0 = nI w ∧ ∀ j, j < w → zJ z 1410 3 0 j = g j
theorem cls_S {M : Nat} {X : Dk} : kS (cls M X) = kS X ∧ kM (cls M X) = kM X ∧ kA (cls M X) = kA X ∧ kB (cls M X) = kB X ∧ kH (cls M X) = kH X ∧ k0 (cls M X) = k0 X ∧ k1 (cls M X) = k1 X ∧ kN (cls M X) = kN X := ⟨rfl, rfl, rfl, rfl, rfl, rfl, rfl, rfl⟩
theorem psh_S {X : Dk} {r : Rw} : kA (psh X r) = kA X ∧ kB (psh X r) = kB X ∧ kR (psh X r) = kR X ∧ kW (psh X r) = kW X ∧ kM (psh X r) = max (kM X) (r.1 + 1 - 3) ∧ kN (psh X r) = kN X + 1 := by
  unfold psh
  split
  · exact ⟨rfl, rfl, rfl, rfl, rfl, rfl⟩
  · split <;> exact ⟨rfl, rfl, rfl, rfl, rfl, rfl⟩
section PSH
variable {o z : Zs} {lim n k s w t : Nat} {X : Dk} {f : Nat → Rw} {g : Nat → Int64}
theorem stp_M {r : Rw} : kM (stp lim n X r) = max (kM X) (r.1 + 1 - 3) := by
  unfold stp
  rw [cls_S.2.1]
  split
  · exact psh_S.2.2.2.2.1
  · rw [spW_S.2.2.2.1, spB_S.2.2.2.1, spA_S.2.2.2.1]; exact psh_S.2.2.2.2.1
theorem stp_S {r : Rw} : kS (stp lim n X r) = if r.2.2 = 2 ∨ r.2.2 = 5 then kS X else ((kS X).1 + 1, pushF (kS X).1 (kS X).2 r) := by
  unfold stp
  rw [cls_S.1]
  by_cases q : r.2.2 = 2 ∨ r.2.2 = 5
  · rw [if_pos q, if_pos q]
    unfold psh
    by_cases q2 : r.2.2 = 2
    · rw [if_pos q2]; rfl
    · rw [if_neg q2, if_pos (q.resolve_left q2)]; rfl
  · rw [if_neg q, if_neg q, spW_S.1, spB_S.1, spA_S.1]
    unfold psh
    rw [if_neg (fun e => q (Or.inl e)), if_neg (fun e => q (Or.inr e))]; rfl
theorem stp_C (h : Dx o lim n X (kS X).1 (kS X).1 (kS X).1 (kM X) (kM X) (kM X) z) (hl : Lg o k f) (hs : s < k) (ht : (f s).1 < 1000000) (hr : Rm n X) (hn : 0 < n) (hn2 : n ≤ 1000) : ∃ y x, fX1_perform s z = some (1, y) ∧ fX1_runSteps y = some ((), x) ∧ Dx o lim n (stp lim n X (f s)) (kS (stp lim n X (f s))).1 (kS (stp lim n X (f s))).1 (kS (stp lim n X (f s))).1 (kM (stp lim n X (f s))) (kM (stp lim n X (f s))) (kM (stp lim n X (f s))) x ∧ ∃ q, zI x 70 0 0 0 = nI q ∧ q ≤ 62 ∧ (¬ ((f s).2.2 = 2 ∨ (f s).2.2 = 5) → 2 ≤ q) := by
  obtain ⟨r1, r2, r3, r4, r5, r6, r7, r8⟩ := hr
  obtain ⟨y, p1, p2, p3⟩ := per_C h hl hs ht r7 (by omega) (by omega)
  obtain ⟨A1, A2, A3, A4, A5, A6⟩ := psh_S (X := X) (r := f s)
  have hM : kM (psh X (f s)) < 1073741824 := by rw [A5]; omega
  rw [stp_M]
  by_cases q : (f s).2.2 = 2 ∨ (f s).2.2 = 5
  · have eS : kS (psh X (f s)) = kS X := by
      unfold psh
      by_cases q2 : (f s).2.2 = 2
      · rw [if_pos q2]; rfl
      · rw [if_neg q2, if_pos (q.resolve_left q2)]; rfl
    obtain ⟨x, x1, x2, d, x3, x4⟩ := run_old p2 (by rw [eS]) (by rw [eS]; omega) (by rw [A4]; omega) (by rw [A3]; omega) hn hM (by rw [A4]; exact r8)
    refine ⟨y, x, p1, x1, ?_, d, ?_, by omega, fun e => absurd q e⟩
    · rw [stp_S, if_pos q]
      unfold stp
      rw [if_pos q]
      rw [eS, A5] at x2
      rw [A5]
      exact x2
    · rw [x4, p3, if_pos q]
      show nI 0 + nI d = nI d
      rw [n_add, Nat.zero_add]
  · have eS : kS (psh X (f s)) = ((kS X).1 + 1, pushF (kS X).1 (kS X).2 (f s)) := by
      unfold psh
      rw [if_neg (fun e => q (Or.inl e)), if_neg (fun e => q (Or.inr e))]; rfl
    have eH : kH (psh X (f s)) = kH X := by
      unfold psh
      rw [if_neg (fun e => q (Or.inl e)), if_neg (fun e => q (Or.inr e))]; rfl
    have er : (kS (psh X (f s))).2 (kS X).1 = f s := by rw [eS]; exact pushF_s
    obtain ⟨x, x1, x2, d, x3, x4⟩ := run_new p2 (by rw [eS]) (by rw [eS]; show (kS X).1 + 1 ≤ 200; omega) (by rw [A1]; omega) (by rw [A2]; omega) (by rw [eH]; omega) (by rw [A4]; omega) (by rw [A3]; omega) hn hn2 (by rw [er]; exact ht) (by omega) hM (by rw [A4]; exact r8)
    refine ⟨y, x, p1, x1, ?_, 2 + d, ?_, by omega, fun _ => by omega⟩
    · rw [er] at x2
      rw [stp_S, if_neg q]
      unfold stp
      rw [if_neg q]
      rw [eS, A5] at x2
      rw [A5]
      exact x2
    · rw [x4, p3, if_neg q]
      show nI 1 + nI 1 + nI d = _
      rw [n_add, n_add]
theorem St.v (h : St lim n X k f z) : Sv lim n X k f 0 g z := ⟨h.1, h.2.1, h.2.2, fun j hj => absurd hj (by omega)⟩
theorem val_C {x : Int64} (h : Sv lim n X k f w g z) (hw : w < 6) : ∃ y, fX11_value x z = some (.ok (nI (w + 1)), y) ∧ Sv lim n X k f (w + 1) (pushF w g x) y := by
  obtain ⟨h1, h2, h3, h4⟩ := h
  have ko : Ot [(384, 3), (385, 3), (1410, 3)] z (wRow z 3 0 (zI z 384 3 0 0) (nI (w + 1)) (fun j => if j = w then x else zJ z 1410 3 0 j)) := Ot.row (p := 3) rfl
  have k3 : zI (wRow z 3 0 (zI z 384 3 0 0) (nI (w + 1)) (fun j => if j = w then x else zJ z 1410 3 0 j)) 385 3 0 0 = nI (w + 1) := by rw [zI_wRow, if_neg (fun q => absurd q.1 (by decide)), if_pos ⟨rfl, rfl, rfl, rfl⟩]
  refine ⟨_, ?_, h1.ob ko rfl rfl, h2.ot ko rfl, k3, fun j hj => ?_⟩
  · unfold fX11_value
    rw [h3, i_6, if_pos ((n_lt (by omega) (by omega)).mpr hw), bq_e (row_app h3 hw), k3]
  · rw [zJ_wRow, if_pos ⟨rfl, rfl, rfl⟩]
    by_cases q : j = w
    · rw [if_pos q, q, pushF_s]
    · rw [if_neg q, pushF_n q]; exact h4 j (by omega)
/-- the state when the entry stands in the log -/
def entC (z : Zs) (k t : Nat) : Zs := sI (sI (wRow (sJ (sI (sI z 716 0 0 0 (nI (k + 1))) 128 0 k 0 0) 129 0 k 0 115) 5 k (zI z 384 3 0 0) (zI z 385 3 0 0) (fun j => if j < 6 then zJ z 1410 3 0 j else zJ z 1410 5 k j)) 384 5 k 0 (nI t)) 385 3 0 0 0
theorem ent_O : Ot [(716, 0), (128, 0), (129, 0), (384, 5), (385, 5), (1410, 5), (385, 3)] z (entC z k t) := (((((Ot.sI rfl).tr (Ot.sI rfl)).tr (Ot.sJ rfl)).tr (Ot.row (p := 5) rfl)).tr (Ot.sI rfl)).tr (Ot.sI rfl)
theorem ent_J {i j : Nat} (hj : j < 6) : zJ (entC z k t) 1410 5 i j = if i = k then zJ z 1410 3 0 j else zJ z 1410 5 i j := by
  unfold entC
  show zJ (wRow (sJ (sI (sI z 716 0 0 0 (nI (k + 1))) 128 0 k 0 0) 129 0 k 0 115) 5 k (zI z 384 3 0 0) (zI z 385 3 0 0) (fun j => if j < 6 then zJ z 1410 3 0 j else zJ z 1410 5 k j)) 1410 5 i j = _
  rw [zJ_wRow]
  by_cases q : i = k
  · rw [if_pos ⟨rfl, rfl, q⟩, if_pos hj, if_pos q]
  · rw [if_neg (fun e => q e.2.2), if_neg q]; rfl
theorem ent_L (h : Sv lim n X k f 2 g z) : Lg (entC z k t) (k + 1) (pushF k f (t, g 0, g 1)) := by
  obtain ⟨h1, h2, h3, h4⟩ := h
  refine ⟨?_, fun i hi => ?_⟩
  · unfold entC
    rw [sI_c (by decide), sI_c (by decide), wR_c (by decide)]
    show zI (sI (sI z 716 0 0 0 (nI (k + 1))) 128 0 k 0 0) 716 0 0 0 = _
    rw [sI_c (by decide), zI_sI, if_pos ⟨rfl, rfl, rfl, rfl⟩]
  · by_cases q : i = k
    · subst q
      rw [pushF_s]
      refine ⟨?_, ?_, ?_, ?_, (ent_J (by decide)).trans ((if_pos rfl).trans (h4 0 (by decide))), (ent_J (by decide)).trans ((if_pos rfl).trans (h4 1 (by decide)))⟩ <;> unfold entC
      · rw [sI_c (by decide), sI_c (by decide), wR_c (by decide)]
        show zI (sI (sI z 716 0 0 0 (nI (i + 1))) 128 0 i 0 0) 128 0 i 0 = _
        rw [zI_sI, if_pos ⟨rfl, rfl, rfl, rfl⟩]
      · show zJ (sJ (sI (sI z 716 0 0 0 (nI (i + 1))) 128 0 i 0 0) 129 0 i 0 115) 129 0 i 0 = _
        rw [zJ_sJ, if_pos ⟨rfl, rfl, rfl, rfl⟩]
      · rw [sI_c (by decide), zI_sI, if_pos ⟨rfl, rfl, rfl, rfl⟩]
      · rw [zI_sI, if_neg (fun e => absurd e.2.1 (by decide)), sI_c (by decide), zI_wRow, if_neg (fun e => absurd e.1 (by decide)), if_pos ⟨rfl, rfl, rfl, rfl⟩]; exact h3
    · rw [pushF_n q]
      obtain ⟨a1, a2, a3, a4, a5, a6⟩ := h2.2 i (by omega)
      refine ⟨?_, ?_, ?_, ?_, (ent_J (by decide)).trans ((if_neg q).trans a5), (ent_J (by decide)).trans ((if_neg q).trans a6)⟩ <;> unfold entC
      · rw [sI_c (by decide), sI_c (by decide), wR_c (by decide)]
        show zI (sI (sI z 716 0 0 0 (nI (k + 1))) 128 0 k 0 0) 128 0 i 0 = _
        rw [zI_sI, if_neg (fun e => q e.2.2.1), sI_c (by decide)]; exact a1
      · show zJ (sJ (sI (sI z 716 0 0 0 (nI (k + 1))) 128 0 k 0 0) 129 0 k 0 115) 129 0 i 0 = _
        rw [zJ_sJ, if_neg (fun e => q e.2.2.1)]; exact a2
      · rw [sI_c (by decide), zI_sI, if_neg (fun e => q e.2.2.1), zI_wRow, if_neg (fun e => q e.2.2.1), if_neg (fun e => q e.2.2.1)]; exact a3
      · rw [zI_sI, if_neg (fun e => absurd e.2.1 (by decide)), sI_c (by decide), zI_wRow, if_neg (fun e => q e.2.2.1), if_neg (fun e => q e.2.2.1)]; exact a4
theorem push_C (h : Sv lim n X k f 2 g z) (hk : k < 200) (ht : t ≤ 1000) (hr : Rm n X) (hn : 0 < n) (hn2 : n ≤ 1000) : ∃ x q, fX11_push 0 (nI t) z = some (.ok (nI q), x) ∧ St lim n (stp lim n X (t, g 0, g 1)) (k + 1) (pushF k f (t, g 0, g 1)) x ∧ q ≤ 62 ∧ (¬ (g 1 = 2 ∨ g 1 = 5) → 2 ≤ q) := by
  have hL := ent_L (t := t) h
  obtain ⟨h1, h2, h3, h4⟩ := h
  have d1 : Dx (entC z k t) lim n X (kS X).1 (kS X).1 (kS X).1 (kM X) (kM X) (kM X) (entC z k t) := h1.ob ent_O rfl rfl
  have e385 : zI (entC z k t) 385 3 0 0 = 0 := by unfold entC; rw [zI_sI, if_pos ⟨rfl, rfl, rfl, rfl⟩]
  obtain ⟨y, x, p1, p2, p3, q, p4, p5, p6⟩ := stp_C (s := k) d1 hL (by omega) (by rw [pushF_s]; show t < 1000000; omega) hr hn hn2
  rw [pushF_s] at p3 p6
  refine ⟨x, q, ?_, ⟨p3.ob Ot.rf (cs := []) rfl rfl, p3.lg hL, ?_⟩, p5, p6⟩
  · have c1 : fX11_streamAt 0 z = some (.ok (2, 0), z) := by
      unfold fX11_streamAt
      rw [if_neg (by decide), h1.1.r707, h1.1.i321_0_0, if_pos (by decide), if_pos (show gi 0 12 by decide)]; rfl
    have hc : (nI k).toNatClampNeg = k := n_cl (by omega)
    have c2 : fX11_newEntry 0 z = some (.ok (0, k), sI (sI z 716 0 0 0 (nI (k + 1))) 128 0 k 0 0) := by
      unfold fX11_newEntry
      rw [h2.1, if_pos (show nI k < (200 : Int32) from (n_lt (b := 200) (by omega) (by omega)).mpr hk), if_pos ((n_gi (by omega)).mpr hk), lt_k, lt_k, hc, i_1, n_add]
    have c3 := row_copy (p := 5) (s := k) (p1 := 3) (s1 := 0) (σ := sJ (sI (sI z 716 0 0 0 (nI (k + 1))) 128 0 k 0 0) 129 0 k 0 115) (fun e => absurd e.1 (by decide))
    have n1 : ¬ (1000000 : Int32) < nI t := fun e => absurd ((n_lt (a := 1000000) (by omega) (by omega)).mp e) (by omega)
    have c4 : zJ (sI (sI z 716 0 0 0 (nI (k + 1))) 128 0 k 0 0) 448 (2, 0).1 (2, 0).2 0 = 115 := h1.1.j448_0_0
    have c5 : fX11_rowsTakenBy k (entC z k t) = some (nI q, x) := by
      unfold fX11_rowsTakenBy
      rw [bq_e p1, bq_e p2, p4]
    unfold fX11_push
    rw [bx_e c1, h1.1.i449_0_0, if_pos rfl, if_neg (m1_lt (by omega)), if_neg n1, h3, h1.1.i450_0_0, if_pos (show nI 2 = 2 from rfl), h1.2.1.1.2.1, if_pos rfl, bx_e c2, lt_k, c4, bq_e c3, lt_k, lt_k]
    show bq (fX11_rowsTakenBy k (entC z k t)) _ = _
    rw [bq_e c5]
  · have := (p3.2.1.2 385 3 0 0 rfl).1
    exact this.trans e385
end PSH
