/-! WRITES AND THE RELATION -/
section UPD
variable {g : Nat → Bool} {o z : Zs} {lim n e1 e2 e3 m1 m2 m3 s k p1 s1 : Nat} {X : Dk}
theorem wR_c {p s c p' s' i : Nat} {t w : Int32} {f : Nat → Int64} (h : c ≠ 384 ∧ c ≠ 385) : zI (wRow z p s t w f) c p' s' i = zI z c p' s' i := by rw [zI_wRow, if_neg (fun e => h.1 e.1), if_neg (fun e => h.2 e.1)]
theorem Tb.rw {f : Nat → Rw} {r : Rw} (h : Tb z s 2 k (fun i => (f i).1) (fun i j => rwJ (f i) j)) (h1 : zI z 384 p1 s1 0 = nI r.1) (h2 : zJ z 1410 p1 s1 0 = r.2.1) (h3 : zJ z 1410 p1 s1 1 = r.2.2) : Tb (addT z 2 s k p1 s1) s 2 (k + 1) (fun i => (pushF k f r i).1) (fun i j => rwJ (pushF k f r i) j) := by
  refine (h.add (g := fun j => rwJ r j) (by decide) h1 (fun j hj => ?_)).cg (fun i _ => ?_) (fun i j _ _ => ?_)
  · match j, hj with
    | 0, _ => exact h2
    | 1, _ => exact h3
    | q + 2, hj => exact absurd hj (by omega)
  · unfold pushF; split <;> rfl
  · unfold pushF; split <;> rfl
theorem Tb.wn {f : Nat → Wn} {u : Wn} (h : Tb z s 4 k (fun i => (f i).2.1) (fun i j => wnJ n (f i) j)) (h1 : zI z 384 p1 s1 0 = nI u.2.1) (h2 : ∀ j, j < 4 → zJ z 1410 p1 s1 j = wnJ n u j) : Tb (addT z 2 s k p1 s1) s 4 (k + 1) (fun i => (pushF k f u i).2.1) (fun i j => wnJ n (pushF k f u i) j) := by
  refine (h.add (g := fun j => wnJ n u j) (by decide) h1 h2).cg (fun i _ => ?_) (fun i j _ _ => ?_)
  · unfold pushF; split <;> rfl
  · unfold pushF; split <;> rfl
theorem Hs.hold {f : Nat → Bool × Rw} {r : Rw} {p3 s3 : Nat} {b : Bool} {sc x : Int32} (h : Hs z k f) (hs : sc = if b then 3 else 0) (hx : x = if b then -1 else 1) (h1 : zI z 384 p3 s3 0 = nI r.1) (h0 : zI z 385 p3 s3 0 = nI 2) (h2 : zJ z 1410 p3 s3 0 = r.2.1) (h3 : zJ z 1410 p3 s3 1 = r.2.2) : Hs (holdC z k p3 s3 sc x k) (k + 1) (pushF k f (b, r)) := by
  obtain ⟨a1, a2⟩ := h
  refine ⟨?_, fun i hi => ?_⟩
  · unfold holdC
    rw [zI_sI, if_pos ⟨rfl, rfl, rfl, rfl⟩]
  · unfold holdC
    by_cases q : i = k
    · subst q
      rw [pushF_s]
      refine ⟨⟨?_, ?_, ?_, ?_⟩, ?_, ?_⟩
      · rw [sI_c (by decide), sI_c (by decide), sI_c (by decide), zI_wRow, if_pos ⟨rfl, rfl, rfl, rfl⟩]; exact h1
      · rw [sI_c (by decide), sI_c (by decide), sI_c (by decide), zI_wRow, if_neg (fun e => absurd e.1 (by decide)), if_pos ⟨rfl, rfl, rfl, rfl⟩]; exact h0
      · show zJ (wRow z 4 i (zI z 384 p3 s3 0) (zI z 385 p3 s3 0) (fun j => if j < 6 then zJ z 1410 p3 s3 j else zJ z 1410 4 i j)) 1410 4 i 0 = _
        rw [zJ_wRow, if_pos ⟨rfl, rfl, rfl⟩, if_pos (by decide)]; exact h2
      · show zJ (wRow z 4 i (zI z 384 p3 s3 0) (zI z 385 p3 s3 0) (fun j => if j < 6 then zJ z 1410 p3 s3 j else zJ z 1410 4 i j)) 1410 4 i 1 = _
        rw [zJ_wRow, if_pos ⟨rfl, rfl, rfl⟩, if_pos (by decide)]; exact h3
      · rw [sI_c (by decide), sI_c (by decide), zI_sI, if_pos ⟨rfl, rfl, rfl, rfl⟩]; exact hs
      · rw [sI_c (by decide), zI_sI, if_pos ⟨rfl, rfl, rfl, rfl⟩]; exact hx
    · obtain ⟨⟨b1, b2, b3, b4⟩, b5, b6⟩ := a2 i (by omega)
      rw [pushF_o (by omega)]
      refine ⟨⟨?_, ?_, ?_, ?_⟩, ?_, ?_⟩
      · rw [sI_c (by decide), sI_c (by decide), sI_c (by decide), zI_wRow, if_neg (fun e => q e.2.2.1), if_neg (fun e => q e.2.2.1)]; exact b1
      · rw [sI_c (by decide), sI_c (by decide), sI_c (by decide), zI_wRow, if_neg (fun e => q e.2.2.1), if_neg (fun e => q e.2.2.1)]; exact b2
      · show zJ (wRow z 4 k (zI z 384 p3 s3 0) (zI z 385 p3 s3 0) (fun j => if j < 6 then zJ z 1410 p3 s3 j else zJ z 1410 4 k j)) 1410 4 i 0 = _
        rw [zJ_wRow, if_neg (fun e => q e.2.2)]; exact b3
      · show zJ (wRow z 4 k (zI z 384 p3 s3 0) (zI z 385 p3 s3 0) (fun j => if j < 6 then zJ z 1410 p3 s3 j else zJ z 1410 4 k j)) 1410 4 i 1 = _
        rw [zJ_wRow, if_neg (fun e => q e.2.2)]; exact b4
      · rw [sI_c (by decide), sI_c (by decide), zI_sI, if_neg (fun e => q e.2.2.1), wR_c (by decide)]; exact b5
      · rw [sI_c (by decide), zI_sI, if_neg (fun e => q e.2.2.1), sI_c (by decide), wR_c (by decide)]; exact b6
theorem Dc.tS (h : Dc o g lim n X e1 e2 e3 m1 m2 m3 z) {r : Rw} (h1 : zI z 384 p1 s1 0 = nI r.1) (h2 : zJ z 1410 p1 s1 0 = r.2.1) (h3 : zJ z 1410 p1 s1 1 = r.2.2) : Dc o g lim n (sS X ((kS X).1 + 1, pushF (kS X).1 (kS X).2 r)) e1 e2 e3 m1 m2 m3 (addT z 2 0 (kS X).1 p1 s1) := by
  obtain ⟨p, sc, ⟨t0, t1, t2, t3⟩, w, hh, ⟨a0, a1, a2, a3⟩, ⟨b1, b2, b3⟩, c0, c1, c2⟩ := h
  have k : Ot [(512, 2), (1538, 2), (1539, 2)] z (addT z 2 0 (kS X).1 p1 s1) := Ot.addT rfl
  exact ⟨p.ot k rfl, sc.ot k rfl, ⟨t0.rw h1 h2 h3, t1.addo (by decide), t2.addo (by decide), t3.addo (by decide)⟩, w.ot k rfl, hh.ot k rfl, ⟨(k.I rfl).trans a0, (k.I rfl).trans a1, (k.I rfl).trans a2, (k.I rfl).trans a3⟩, ⟨(k.I rfl).trans b1, (k.I rfl).trans b2, (k.I rfl).trans b3⟩, (k.I rfl).trans c0, (k.I rfl).trans c1, (k.I rfl).trans c2⟩
theorem Dc.tA (h : Dc o g lim n X e1 e2 e3 m1 m2 m3 z) {r : Rw} (h1 : zI z 384 p1 s1 0 = nI r.1) (h2 : zJ z 1410 p1 s1 0 = r.2.1) (h3 : zJ z 1410 p1 s1 1 = r.2.2) : Dc o g lim n (sA X ((kA X).1 + 1, pushF (kA X).1 (kA X).2 r)) e1 e2 e3 m1 m2 m3 (addT z 2 1 (kA X).1 p1 s1) := by
  obtain ⟨p, sc, ⟨t0, t1, t2, t3⟩, w, hh, ⟨a0, a1, a2, a3⟩, ⟨b1, b2, b3⟩, c0, c1, c2⟩ := h
  have k : Ot [(512, 2), (1538, 2), (1539, 2)] z (addT z 2 1 (kA X).1 p1 s1) := Ot.addT rfl
  exact ⟨p.ot k rfl, sc.ot k rfl, ⟨t0.addo (by decide), t1.rw h1 h2 h3, t2.addo (by decide), t3.addo (by decide)⟩, w.ot k rfl, hh.ot k rfl, ⟨(k.I rfl).trans a0, (k.I rfl).trans a1, (k.I rfl).trans a2, (k.I rfl).trans a3⟩, ⟨(k.I rfl).trans b1, (k.I rfl).trans b2, (k.I rfl).trans b3⟩, (k.I rfl).trans c0, (k.I rfl).trans c1, (k.I rfl).trans c2⟩
theorem Dc.tB (h : Dc o g lim n X e1 e2 e3 m1 m2 m3 z) {r : Rw} (h1 : zI z 384 p1 s1 0 = nI r.1) (h2 : zJ z 1410 p1 s1 0 = r.2.1) (h3 : zJ z 1410 p1 s1 1 = r.2.2) : Dc o g lim n (sB X ((kB X).1 + 1, pushF (kB X).1 (kB X).2 r)) e1 e2 e3 m1 m2 m3 (addT z 2 2 (kB X).1 p1 s1) := by
  obtain ⟨p, sc, ⟨t0, t1, t2, t3⟩, w, hh, ⟨a0, a1, a2, a3⟩, ⟨b1, b2, b3⟩, c0, c1, c2⟩ := h
  have k : Ot [(512, 2), (1538, 2), (1539, 2)] z (addT z 2 2 (kB X).1 p1 s1) := Ot.addT rfl
  exact ⟨p.ot k rfl, sc.ot k rfl, ⟨t0.addo (by decide), t1.addo (by decide), t2.rw h1 h2 h3, t3.addo (by decide)⟩, w.ot k rfl, hh.ot k rfl, ⟨(k.I rfl).trans a0, (k.I rfl).trans a1, (k.I rfl).trans a2, (k.I rfl).trans a3⟩, ⟨(k.I rfl).trans b1, (k.I rfl).trans b2, (k.I rfl).trans b3⟩, (k.I rfl).trans c0, (k.I rfl).trans c1, (k.I rfl).trans c2⟩
theorem Dc.tR (h : Dc o g lim n X e1 e2 e3 m1 m2 m3 z) {u : Wn} (h1 : zI z 384 p1 s1 0 = nI u.2.1) (h2 : ∀ j, j < 4 → zJ z 1410 p1 s1 j = wnJ n u j) : Dc o g lim n (sRw X ((kR X).1 + 1, pushF (kR X).1 (kR X).2 u)) e1 e2 e3 m1 m2 m3 (addT z 2 3 (kR X).1 p1 s1) := by
  obtain ⟨p, sc, ⟨t0, t1, t2, t3⟩, w, hh, ⟨a0, a1, a2, a3⟩, ⟨b1, b2, b3⟩, c0, c1, c2⟩ := h
  have k : Ot [(512, 2), (1538, 2), (1539, 2)] z (addT z 2 3 (kR X).1 p1 s1) := Ot.addT rfl
  exact ⟨p.ot k rfl, sc.ot k rfl, ⟨t0.addo (by decide), t1.addo (by decide), t2.addo (by decide), t3.wn h1 h2⟩, w.ot k rfl, hh.ot k rfl, ⟨(k.I rfl).trans a0, (k.I rfl).trans a1, (k.I rfl).trans a2, (k.I rfl).trans a3⟩, ⟨(k.I rfl).trans b1, (k.I rfl).trans b2, (k.I rfl).trans b3⟩, (k.I rfl).trans c0, (k.I rfl).trans c1, (k.I rfl).trans c2⟩
theorem Dc.hold (h : Dc o g lim n X e1 e2 e3 m1 m2 m3 z) {p3 s3 : Nat} {r : Rw} {b : Bool} {oc x : Int32} (hs : oc = if b then 3 else 0) (hx : x = if b then -1 else 1) (h1 : zI z 384 p3 s3 0 = nI r.1) (h0 : zI z 385 p3 s3 0 = nI 2) (h2 : zJ z 1410 p3 s3 0 = r.2.1) (h3 : zJ z 1410 p3 s3 1 = r.2.2) : Dc o g lim n (sH X ((kH X).1 + 1, pushF (kH X).1 (kH X).2 (b, r))) e1 e2 e3 m1 m2 m3 (holdC z (kH X).1 p3 s3 oc x (kH X).1) := by
  obtain ⟨p, sc, ⟨t0, t1, t2, t3⟩, w, hh, ⟨a0, a1, a2, a3⟩, ⟨b1, b2, b3⟩, c0, c1, c2⟩ := h
  have k : Ot [(384, 4), (385, 4), (1410, 4), (387, 4), (388, 4), (66, 0)] z (holdC z (kH X).1 p3 s3 oc x (kH X).1) := Ot.holdC rfl
  exact ⟨p.ot k rfl, sc.ot k rfl, ⟨t0.ot k rfl, t1.ot k rfl, t2.ot k rfl, t3.ot k rfl⟩, w.ot k rfl, hh.hold hs hx h1 h0 h2 h3, ⟨(k.I rfl).trans a0, (k.I rfl).trans a1, (k.I rfl).trans a2, (k.I rfl).trans a3⟩, ⟨(k.I rfl).trans b1, (k.I rfl).trans b2, (k.I rfl).trans b3⟩, (k.I rfl).trans c0, (k.I rfl).trans c1, (k.I rfl).trans c2⟩
variable {m : Nat}
theorem Dc.w0 (h : Dc o g lim n X e1 e2 e3 m1 m2 m3 z) : Dc o g lim n (sM X m) e1 e2 e3 m1 m2 m3 (sI z 461 2 0 0 (wmI m)) := by
  obtain ⟨p, sc, ⟨t0, t1, t2, t3⟩, w, hh, ⟨a0, a1, a2, a3⟩, ⟨b1, b2, b3⟩, c0, c1, c2⟩ := h
  have k : Ot [(461, 2)] z (sI z 461 2 0 0 (wmI m)) := Ot.sI rfl
  exact ⟨p.ot k rfl, sc.ot k rfl, ⟨t0.ot k rfl, t1.ot k rfl, t2.ot k rfl, t3.ot k rfl⟩, w.ot k rfl, hh.ot k rfl, ⟨(zI_sI ..).trans (if_pos ⟨rfl, rfl, rfl, rfl⟩), by rw [zI_sI, if_neg (by decide)]; exact a1, by rw [zI_sI, if_neg (by decide)]; exact a2, by rw [zI_sI, if_neg (by decide)]; exact a3⟩, ⟨(k.I rfl).trans b1, (k.I rfl).trans b2, (k.I rfl).trans b3⟩, (k.I rfl).trans c0, (k.I rfl).trans c1, (k.I rfl).trans c2⟩
theorem Dc.w1 (h : Dc o g lim n X e1 e2 e3 m1 m2 m3 z) : Dc o g lim n X e1 e2 e3 m m2 m3 (sI z 461 2 1 0 (wmI m)) := by
  obtain ⟨p, sc, ⟨t0, t1, t2, t3⟩, w, hh, ⟨a0, a1, a2, a3⟩, ⟨b1, b2, b3⟩, c0, c1, c2⟩ := h
  have k : Ot [(461, 2)] z (sI z 461 2 1 0 (wmI m)) := Ot.sI rfl
  exact ⟨p.ot k rfl, sc.ot k rfl, ⟨t0.ot k rfl, t1.ot k rfl, t2.ot k rfl, t3.ot k rfl⟩, w.ot k rfl, hh.ot k rfl, ⟨by rw [zI_sI, if_neg (by decide)]; exact a0, (zI_sI ..).trans (if_pos ⟨rfl, rfl, rfl, rfl⟩), by rw [zI_sI, if_neg (by decide)]; exact a2, by rw [zI_sI, if_neg (by decide)]; exact a3⟩, ⟨(k.I rfl).trans b1, (k.I rfl).trans b2, (k.I rfl).trans b3⟩, (k.I rfl).trans c0, (k.I rfl).trans c1, (k.I rfl).trans c2⟩
theorem Dc.w2 (h : Dc o g lim n X e1 e2 e3 m1 m2 m3 z) : Dc o g lim n X e1 e2 e3 m1 m m3 (sI z 461 2 2 0 (wmI m)) := by
  obtain ⟨p, sc, ⟨t0, t1, t2, t3⟩, w, hh, ⟨a0, a1, a2, a3⟩, ⟨b1, b2, b3⟩, c0, c1, c2⟩ := h
  have k : Ot [(461, 2)] z (sI z 461 2 2 0 (wmI m)) := Ot.sI rfl
  exact ⟨p.ot k rfl, sc.ot k rfl, ⟨t0.ot k rfl, t1.ot k rfl, t2.ot k rfl, t3.ot k rfl⟩, w.ot k rfl, hh.ot k rfl, ⟨by rw [zI_sI, if_neg (by decide)]; exact a0, by rw [zI_sI, if_neg (by decide)]; exact a1, (zI_sI ..).trans (if_pos ⟨rfl, rfl, rfl, rfl⟩), by rw [zI_sI, if_neg (by decide)]; exact a3⟩, ⟨(k.I rfl).trans b1, (k.I rfl).trans b2, (k.I rfl).trans b3⟩, (k.I rfl).trans c0, (k.I rfl).trans c1, (k.I rfl).trans c2⟩
theorem Dc.w3 (h : Dc o g lim n X e1 e2 e3 m1 m2 m3 z) : Dc o g lim n X e1 e2 e3 m1 m2 m (sI z 461 2 3 0 (wmI m)) := by
  obtain ⟨p, sc, ⟨t0, t1, t2, t3⟩, w, hh, ⟨a0, a1, a2, a3⟩, ⟨b1, b2, b3⟩, c0, c1, c2⟩ := h
  have k : Ot [(461, 2)] z (sI z 461 2 3 0 (wmI m)) := Ot.sI rfl
  exact ⟨p.ot k rfl, sc.ot k rfl, ⟨t0.ot k rfl, t1.ot k rfl, t2.ot k rfl, t3.ot k rfl⟩, w.ot k rfl, hh.ot k rfl, ⟨by rw [zI_sI, if_neg (by decide)]; exact a0, by rw [zI_sI, if_neg (by decide)]; exact a1, by rw [zI_sI, if_neg (by decide)]; exact a2, (zI_sI ..).trans (if_pos ⟨rfl, rfl, rfl, rfl⟩)⟩, ⟨(k.I rfl).trans b1, (k.I rfl).trans b2, (k.I rfl).trans b3⟩, (k.I rfl).trans c0, (k.I rfl).trans c1, (k.I rfl).trans c2⟩
theorem Dc.n1 (h : Dc o g lim n X e1 e2 e3 m1 m2 m3 z) : Dc o g lim n X m e2 e3 m1 m2 m3 (sI z 1486 2 1 0 (nI m)) := by
  obtain ⟨p, sc, ⟨t0, t1, t2, t3⟩, w, hh, ⟨a0, a1, a2, a3⟩, ⟨b1, b2, b3⟩, c0, c1, c2⟩ := h
  have k : Ot [(1486, 2)] z (sI z 1486 2 1 0 (nI m)) := Ot.sI rfl
  exact ⟨p.ot k rfl, sc.ot k rfl, ⟨t0.ot k rfl, t1.ot k rfl, t2.ot k rfl, t3.ot k rfl⟩, w.ot k rfl, hh.ot k rfl, ⟨(k.I rfl).trans a0, (k.I rfl).trans a1, (k.I rfl).trans a2, (k.I rfl).trans a3⟩, ⟨(zI_sI ..).trans (if_pos ⟨rfl, rfl, rfl, rfl⟩), by rw [zI_sI, if_neg (by decide)]; exact b2, by rw [zI_sI, if_neg (by decide)]; exact b3⟩, (k.I rfl).trans c0, (k.I rfl).trans c1, (k.I rfl).trans c2⟩
theorem Dc.n2 (h : Dc o g lim n X e1 e2 e3 m1 m2 m3 z) : Dc o g lim n X e1 m e3 m1 m2 m3 (sI z 1486 2 2 0 (nI m)) := by
  obtain ⟨p, sc, ⟨t0, t1, t2, t3⟩, w, hh, ⟨a0, a1, a2, a3⟩, ⟨b1, b2, b3⟩, c0, c1, c2⟩ := h
  have k : Ot [(1486, 2)] z (sI z 1486 2 2 0 (nI m)) := Ot.sI rfl
  exact ⟨p.ot k rfl, sc.ot k rfl, ⟨t0.ot k rfl, t1.ot k rfl, t2.ot k rfl, t3.ot k rfl⟩, w.ot k rfl, hh.ot k rfl, ⟨(k.I rfl).trans a0, (k.I rfl).trans a1, (k.I rfl).trans a2, (k.I rfl).trans a3⟩, ⟨by rw [zI_sI, if_neg (by decide)]; exact b1, (zI_sI ..).trans (if_pos ⟨rfl, rfl, rfl, rfl⟩), by rw [zI_sI, if_neg (by decide)]; exact b3⟩, (k.I rfl).trans c0, (k.I rfl).trans c1, (k.I rfl).trans c2⟩
theorem Dc.n3 (h : Dc o g lim n X e1 e2 e3 m1 m2 m3 z) : Dc o g lim n X e1 e2 m m1 m2 m3 (sI z 1486 2 3 0 (nI m)) := by
  obtain ⟨p, sc, ⟨t0, t1, t2, t3⟩, w, hh, ⟨a0, a1, a2, a3⟩, ⟨b1, b2, b3⟩, c0, c1, c2⟩ := h
  have k : Ot [(1486, 2)] z (sI z 1486 2 3 0 (nI m)) := Ot.sI rfl
  exact ⟨p.ot k rfl, sc.ot k rfl, ⟨t0.ot k rfl, t1.ot k rfl, t2.ot k rfl, t3.ot k rfl⟩, w.ot k rfl, hh.ot k rfl, ⟨(k.I rfl).trans a0, (k.I rfl).trans a1, (k.I rfl).trans a2, (k.I rfl).trans a3⟩, ⟨by rw [zI_sI, if_neg (by decide)]; exact b1, by rw [zI_sI, if_neg (by decide)]; exact b2, (zI_sI ..).trans (if_pos ⟨rfl, rfl, rfl, rfl⟩)⟩, (k.I rfl).trans c0, (k.I rfl).trans c1, (k.I rfl).trans c2⟩
theorem Dc.k0 (h : Dc o g lim n X e1 e2 e3 m1 m2 m3 z) : Dc o g lim n (s0k X m) e1 e2 e3 m1 m2 m3 (sI z 4 2 0 0 (nI m)) := by
  obtain ⟨p, sc, ⟨t0, t1, t2, t3⟩, w, hh, ⟨a0, a1, a2, a3⟩, ⟨b1, b2, b3⟩, c0, c1, c2⟩ := h
  have k : Ot [(4, 2)] z (sI z 4 2 0 0 (nI m)) := Ot.sI rfl
  exact ⟨p.ot k rfl, sc.ot k rfl, ⟨t0.ot k rfl, t1.ot k rfl, t2.ot k rfl, t3.ot k rfl⟩, w.ot k rfl, hh.ot k rfl, ⟨(k.I rfl).trans a0, (k.I rfl).trans a1, (k.I rfl).trans a2, (k.I rfl).trans a3⟩, ⟨(k.I rfl).trans b1, (k.I rfl).trans b2, (k.I rfl).trans b3⟩, (zI_sI ..).trans (if_pos ⟨rfl, rfl, rfl, rfl⟩), by rw [zI_sI, if_neg (by decide)]; exact c1, (k.I rfl).trans c2⟩
theorem Dc.k1 (h : Dc o g lim n X e1 e2 e3 m1 m2 m3 z) : Dc o g lim n (s1k X m) e1 e2 e3 m1 m2 m3 (sI z 4 2 1 0 (nI m)) := by
  obtain ⟨p, sc, ⟨t0, t1, t2, t3⟩, w, hh, ⟨a0, a1, a2, a3⟩, ⟨b1, b2, b3⟩, c0, c1, c2⟩ := h
  have k : Ot [(4, 2)] z (sI z 4 2 1 0 (nI m)) := Ot.sI rfl
  exact ⟨p.ot k rfl, sc.ot k rfl, ⟨t0.ot k rfl, t1.ot k rfl, t2.ot k rfl, t3.ot k rfl⟩, w.ot k rfl, hh.ot k rfl, ⟨(k.I rfl).trans a0, (k.I rfl).trans a1, (k.I rfl).trans a2, (k.I rfl).trans a3⟩, ⟨(k.I rfl).trans b1, (k.I rfl).trans b2, (k.I rfl).trans b3⟩, by rw [zI_sI, if_neg (by decide)]; exact c0, (zI_sI ..).trans (if_pos ⟨rfl, rfl, rfl, rfl⟩), (k.I rfl).trans c2⟩
theorem Dc.kN (h : Dc o g lim n X e1 e2 e3 m1 m2 m3 z) : Dc o g lim n (sNk X m) e1 e2 e3 m1 m2 m3 (sI z 69 0 0 0 (nI m)) := by
  obtain ⟨p, sc, ⟨t0, t1, t2, t3⟩, w, hh, ⟨a0, a1, a2, a3⟩, ⟨b1, b2, b3⟩, c0, c1, c2⟩ := h
  have k : Ot [(69, 0)] z (sI z 69 0 0 0 (nI m)) := Ot.sI rfl
  exact ⟨p.ot k rfl, sc.ot k rfl, ⟨t0.ot k rfl, t1.ot k rfl, t2.ot k rfl, t3.ot k rfl⟩, w.ot k rfl, hh.ot k rfl, ⟨(k.I rfl).trans a0, (k.I rfl).trans a1, (k.I rfl).trans a2, (k.I rfl).trans a3⟩, ⟨(k.I rfl).trans b1, (k.I rfl).trans b2, (k.I rfl).trans b3⟩, (k.I rfl).trans c0, (k.I rfl).trans c1, (zI_sI ..).trans (if_pos ⟨rfl, rfl, rfl, rfl⟩)⟩
theorem Dc.ck {y : Zs} (h : Dc o g lim n X e1 e2 e3 m1 m2 m3 z) (k : Ot ckS z y) : Dc o g lim n X e1 e2 e3 m1 m2 m3 y := h.ot k rfl rfl
theorem Dc.s70 {v : Int32} (h : Dc o g lim n X e1 e2 e3 m1 m2 m3 z) : Dc o g lim n X e1 e2 e3 m1 m2 m3 (sI z 70 0 0 0 v) := h.ot (Ot.sI (cs := [(70, 0)]) rfl) rfl rfl
theorem Dc.row {t v : Int32} {f : Nat → Int64} (hp : s = 0 ∨ s = 2) (h : Dc o g lim n X e1 e2 e3 m1 m2 m3 z) : Dc o g lim n X e1 e2 e3 m1 m2 m3 (wRow z s k t v f) := by
  rcases hp with rfl | rfl
  · exact h.ot (Ot.row (cs := [(384, 0), (385, 0), (1410, 0)]) rfl) rfl rfl
  · exact h.ot (Ot.row (cs := [(384, 2), (385, 2), (1410, 2)]) rfl) rfl rfl
end UPD
