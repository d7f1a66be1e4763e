/-! CELLS THAT DON'T COUNT: the stack, the rows on their way; what an expression yields -/
theorem Tb.fr {z y : Zs} {s w k : Nat} {t : Nat → Nat} {f : Nat → Nat → Int64} (h : Tb z s w k t f) (h1 : zI y 512 2 s 0 = zI z 512 2 s 0) (h2 : zI y 513 2 s 0 = zI z 513 2 s 0) (h3 : ∀ i, zI y 1538 2 s i = zI z 1538 2 s i) (h4 : ∀ i, zJ y 1539 2 s i = zJ z 1539 2 s i) : Tb y s w k t f :=
  ⟨h1.trans h.1, h2.trans h.2.1, fun i hi => (h3 i).trans (h.2.2.1 i hi), fun i j hi hj => (h4 _).trans (h.2.2.2 i j hi hj)⟩
theorem Ws.fr {z y : Zs} {k : Nat} {f : Nat → Wn} {c : Nat → Bool} (h : Ws z k f c) (h1 : zI y 640 2 3 0 = zI z 640 2 3 0) (h2 : ∀ i, zJ y 1665 2 3 i = zJ z 1665 2 3 i) (h3 : ∀ i, zI y 1666 2 3 i = zI z 1666 2 3 i) (h4 : ∀ i, zI y 1667 2 3 i = zI z 1667 2 3 i) (h5 : ∀ i, zI y 1668 2 3 i = zI z 1668 2 3 i) (h6 : ∀ i, zJ y 1669 2 3 i = zJ z 1669 2 3 i) : Ws y k f c :=
  ⟨h1.trans h.1, fun i hi => by
    obtain ⟨a1, a2, a3, a4, a5, a6⟩ := h.2 i hi
    exact ⟨(h2 _).trans a1, (h3 _).trans a2, (h4 _).trans a3, (h5 _).trans a4, (h6 _).trans a5, (h6 _).trans a6⟩⟩
theorem Rr.fr {z y : Zs} {p s : Nat} {r : Rw} (h : Rr z p s r) (h1 : zI y 384 p s 0 = zI z 384 p s 0) (h2 : zI y 385 p s 0 = zI z 385 p s 0) (h3 : ∀ i, zJ y 1410 p s i = zJ z 1410 p s i) : Rr y p s r :=
  ⟨h1.trans h.1, h2.trans h.2.1, (h3 _).trans h.2.2.1, (h3 _).trans h.2.2.2⟩
theorem Hs.fr {z y : Zs} {k : Nat} {f : Nat → Bool × Rw} (h : Hs z k f) (h0 : zI y 66 0 0 0 = zI z 66 0 0 0) (h1 : ∀ s, zI y 384 4 s 0 = zI z 384 4 s 0) (h2 : ∀ s, zI y 385 4 s 0 = zI z 385 4 s 0) (h3 : ∀ s i, zJ y 1410 4 s i = zJ z 1410 4 s i) (h4 : ∀ s, zI y 387 4 s 0 = zI z 387 4 s 0) (h5 : ∀ s, zI y 388 4 s 0 = zI z 388 4 s 0) : Hs y k f :=
  ⟨h0.trans h.1, fun i hi => ⟨(h.2 i hi).1.fr (h1 _) (h2 _) (h3 _), (h4 _).trans (h.2 i hi).2.1, (h5 _).trans (h.2 i hi).2.2⟩⟩
theorem Lg.fr {z y : Zs} {k : Nat} {f : Nat → Rw} (h : Lg z k f) (h0 : zI y 716 0 0 0 = zI z 716 0 0 0) (h1 : ∀ s, zI y 384 5 s 0 = zI z 384 5 s 0) (h2 : ∀ s, zI y 385 5 s 0 = zI z 385 5 s 0) (h3 : ∀ s i, zJ y 1410 5 s i = zJ z 1410 5 s i) (h4 : ∀ s, zI y 128 0 s 0 = zI z 128 0 s 0) (h5 : ∀ s, zJ y 129 0 s 0 = zJ z 129 0 s 0) : Lg y k f :=
  ⟨h0.trans h.1, fun i hi => ⟨(h4 _).trans (h.2 i hi).1, (h5 _).trans (h.2 i hi).2.1, (h.2 i hi).2.2.fr (h1 _) (h2 _) (h3 _)⟩⟩
/-- only cells of these codes (with the first number of their pair) differ -/
def Ot (cs : List (Nat × Nat)) (z y : Zs) : Prop := zR y = zR z ∧ ∀ c p s i, cs.contains (c, p) = false → zI y c p s i = zI z c p s i ∧ zJ y c p s i = zJ z c p s i
section OTS
variable {z y x : Zs} {cs ds : List (Nat × Nat)} {lim n c p s i : Nat}
theorem Ot.rf : Ot cs z z := ⟨rfl, fun _ _ _ _ _ => ⟨rfl, rfl⟩⟩
theorem Ot.tr (h : Ot cs z y) (k : Ot cs y x) : Ot cs z x := ⟨k.1.trans h.1, fun c p s i q => ⟨((k.2 c p s i q).1).trans (h.2 c p s i q).1, ((k.2 c p s i q).2).trans (h.2 c p s i q).2⟩⟩
theorem Ot.mono (h : Ot cs z y) (q : cs.all (fun e => ds.contains e) = true) : Ot ds z y := ⟨h.1, fun c p s i w => h.2 c p s i (by
  rw [List.all_eq_true] at q
  cases e : cs.contains (c, p) with
  | false => rfl
  | true => exact absurd (q _ (List.contains_iff_mem.mp e)) (by rw [w]; decide))⟩
theorem Ot.I (h : Ot cs z y) (q : cs.contains (c, p) = false) : zI y c p s i = zI z c p s i := (h.2 c p s i q).1
theorem Ot.J (h : Ot cs z y) (q : cs.contains (c, p) = false) : zJ y c p s i = zJ z c p s i := (h.2 c p s i q).2
theorem Ot.sI {v : Int32} (q : cs.contains (c, p) = true) : Ot cs z (sI z c p s i v) := ⟨rfl, fun c' p' s' i' w => ⟨by rw [zI_sI, if_neg (fun e => by rw [e.1, e.2.1, q] at w; cases w)], rfl⟩⟩
theorem Ot.sJ {v : Int64} (q : cs.contains (c, p) = true) : Ot cs z (sJ z c p s i v) := ⟨rfl, fun c' p' s' i' w => ⟨rfl, by rw [zJ_sJ, if_neg (fun e => by rw [e.1, e.2.1, q] at w; cases w)]⟩⟩
theorem Ot.jJ {f : Nat → Int64} (q : cs.contains (c, p) = true) : Ot cs z (jJ z c p s f) := ⟨rfl, fun c' p' s' i' w => ⟨rfl, by rw [zJ_jJ, if_neg (fun e => by rw [e.1, e.2.1, q] at w; cases w)]⟩⟩
theorem Ot.row {t w : Int32} {f : Nat → Int64} (q : (cs.contains (384, p) && cs.contains (385, p) && cs.contains (1410, p)) = true) : Ot cs z (wRow z p s t w f) := by
  simp only [Bool.and_eq_true] at q
  exact ⟨rfl, fun c' p' s' i' w => ⟨by rw [zI_wRow, if_neg (fun e => by rw [e.1, e.2.1, q.1.1] at w; cases w), if_neg (fun e => by rw [e.1, e.2.1, q.1.2] at w; cases w)], by rw [zJ_wRow, if_neg (fun e => by rw [e.1, e.2.1, q.2] at w; cases w)]⟩⟩
theorem Ot.addT {P r p1 s1 : Nat} (q : (cs.contains (512, P) && cs.contains (1538, P) && cs.contains (1539, P)) = true) : Ot cs z (addT z P s r p1 s1) := by
  simp only [Bool.and_eq_true] at q
  exact ((Ot.sI q.1.2).tr (Ot.jJ q.2)).tr (Ot.sI q.1.1)
theorem Ot.holdC {r p3 s3 k : Nat} {a b : Int32} (q : (cs.contains (384, 4) && cs.contains (385, 4) && cs.contains (1410, 4) && cs.contains (387, 4) && cs.contains (388, 4) && cs.contains (66, 0)) = true) : Ot cs z (holdC z r p3 s3 a b k) := by
  simp only [Bool.and_eq_true] at q
  exact (((Ot.row (by simp only [Bool.and_eq_true]; exact q.1.1.1)).tr (Ot.sI q.1.1.2)).tr (Ot.sI q.1.2)).tr (Ot.sI q.2)
theorem PF.ot (h : PF lim n z) (k : Ot cs z y) (q : cs.all (fun e => !stc e.1) = true) : PF lim n y := by
  rw [List.all_eq_true] at q
  have w : ∀ c p, stc c = true → cs.contains (c, p) = false := fun c p hs => by
    cases e : cs.contains (c, p) with
    | false => rfl
    | true => exact absurd (q _ (List.contains_iff_mem.mp e)) (by rw [hs]; decide)
  exact h.fr (fun c p s i hs => k.I (w c p hs)) (fun c p s i hs => k.J (w c p (by rcases hs with hs | hs <;> (rw [hs]; rfl)))) k.1
theorem Tb.ot {w j : Nat} {t : Nat → Nat} {f : Nat → Nat → Int64} (h : Tb z s w j t f) (k : Ot cs z y) (q : [(512, 2), (513, 2), (1538, 2), (1539, 2)].all (fun e => !cs.contains e) = true) : Tb y s w j t f := by
  simp only [List.all_cons, List.all_nil, Bool.and_true, Bool.and_eq_true, Bool.not_eq_true'] at q
  exact h.fr (k.I q.1) (k.I q.2.1) (fun _ => k.I q.2.2.1) (fun _ => k.J q.2.2.2)
theorem Ws.ot {j : Nat} {f : Nat → Wn} {g : Nat → Bool} (h : Ws z j f g) (k : Ot cs z y) (q : [(640, 2), (1665, 2), (1666, 2), (1667, 2), (1668, 2), (1669, 2)].all (fun e => !cs.contains e) = true) : Ws y j f g := by
  simp only [List.all_cons, List.all_nil, Bool.and_true, Bool.and_eq_true, Bool.not_eq_true'] at q
  exact h.fr (k.I q.1) (fun _ => k.J q.2.1) (fun _ => k.I q.2.2.1) (fun _ => k.I q.2.2.2.1) (fun _ => k.I q.2.2.2.2.1) (fun _ => k.J q.2.2.2.2.2)
theorem Rr.ot {r : Rw} (h : Rr z p s r) (k : Ot cs z y) (q : [(384, p), (385, p), (1410, p)].all (fun e => !cs.contains e) = true) : Rr y p s r := by
  simp only [List.all_cons, List.all_nil, Bool.and_true, Bool.and_eq_true, Bool.not_eq_true'] at q
  exact h.fr (k.I q.1) (k.I q.2.1) (fun _ => k.J q.2.2)
theorem Hs.ot {j : Nat} {f : Nat → Bool × Rw} (h : Hs z j f) (k : Ot cs z y) (q : [(66, 0), (384, 4), (385, 4), (1410, 4), (387, 4), (388, 4)].all (fun e => !cs.contains e) = true) : Hs y j f := by
  simp only [List.all_cons, List.all_nil, Bool.and_true, Bool.and_eq_true, Bool.not_eq_true'] at q
  exact h.fr (k.I q.1) (fun _ => k.I q.2.1) (fun _ => k.I q.2.2.1) (fun _ _ => k.J q.2.2.2.1) (fun _ => k.I q.2.2.2.2.1) (fun _ => k.I q.2.2.2.2.2)
theorem Lg.ot {j : Nat} {f : Nat → Rw} (h : Lg z j f) (k : Ot cs z y) (q : [(716, 0), (384, 5), (385, 5), (1410, 5), (128, 0), (129, 0)].all (fun e => !cs.contains e) = true) : Lg y j f := by
  simp only [List.all_cons, List.all_nil, Bool.and_true, Bool.and_eq_true, Bool.not_eq_true'] at q
  exact h.fr (k.I q.1) (fun _ => k.I q.2.1) (fun _ => k.I q.2.2.1) (fun _ _ => k.J q.2.2.2.1) (fun _ => k.I q.2.2.2.2.1) (fun _ => k.J q.2.2.2.2.2)
theorem Sc.ot {o : Zs} (h : Sc o z) (k : Ot cs z y) (q : ([(67, 0), (68, 0), (705, 0), (718, 0)] ++ lgl).all (fun e => !cs.contains e) = true) : Sc o y := by
  rw [List.all_append, Bool.and_eq_true] at q
  obtain ⟨q, q2⟩ := q
  simp only [List.all_cons, List.all_nil, Bool.and_true, Bool.and_eq_true, Bool.not_eq_true'] at q
  refine ⟨⟨(k.I q.1).trans h.1.1, (k.I q.2.1).trans h.1.2.1, (k.I q.2.2.1).trans h.1.2.2.1, (k.I q.2.2.2).trans h.1.2.2.2⟩, fun c p s i e => ?_⟩
  rw [List.all_eq_true] at q2
  have w : cs.contains (c, p) = false := by
    have := q2 _ (List.contains_iff_mem.mp e)
    simpa using this
  exact ⟨(k.I w).trans (h.2 c p s i e).1, (k.J w).trans (h.2 c p s i e).2⟩
theorem Sc.ob {o : Zs} (h : Sc o z) (k : Ot cs z y) (q : [(67, 0), (68, 0), (705, 0), (718, 0)].all (fun e => !cs.contains e) = true) : Sc y y := by
  simp only [List.all_cons, List.all_nil, Bool.and_true, Bool.and_eq_true, Bool.not_eq_true'] at q
  exact ⟨⟨(k.I q.1).trans h.1.1, (k.I q.2.1).trans h.1.2.1, (k.I q.2.2.1).trans h.1.2.2.1, (k.I q.2.2.2).trans h.1.2.2.2⟩, fun _ _ _ _ _ => ⟨rfl, rfl⟩⟩
/-- all cells that the relation speaks of -/
def dxl : List (Nat × Nat) := [(67, 0), (68, 0), (705, 0), (718, 0), (512, 2), (513, 2), (1538, 2), (1539, 2), (640, 2), (1665, 2), (1666, 2), (1667, 2), (1668, 2), (1669, 2), (66, 0), (384, 4), (385, 4), (1410, 4), (387, 4), (388, 4), (461, 2), (1486, 2), (4, 2), (69, 0)]
theorem dxl_s {es : List (Nat × Nat)} (h : es.all (fun e => dxl.contains e) = true) (q : dxl.all (fun e => !cs.contains e) = true) : es.all (fun e => !cs.contains e) = true := by
  rw [List.all_eq_true] at h q ⊢
  exact fun e he => q e (List.contains_iff_mem.mp (h e he))
theorem dxl_1 {e : Nat × Nat} (h : dxl.contains e = true) (q : dxl.all (fun e => !cs.contains e) = true) : cs.contains e = false := by
  rw [List.all_eq_true] at q
  have := q e (List.contains_iff_mem.mp h)
  simpa using this
theorem Dc.ot {o : Zs} {X : Dk} {g : Nat → Bool} {e1 e2 e3 m1 m2 m3 : Nat} (h : Dc o g lim n X e1 e2 e3 m1 m2 m3 z) (k : Ot cs z y) (q1 : cs.all (fun e => !stc e.1) = true) (q : (dxl ++ lgl).all (fun e => !cs.contains e) = true) : Dc o g lim n X e1 e2 e3 m1 m2 m3 y := by
  rw [List.all_append, Bool.and_eq_true] at q
  obtain ⟨q, q2⟩ := q
  obtain ⟨p, sc, ⟨t0, t1, t2, t3⟩, w, hh, ⟨a0, a1, a2, a3⟩, ⟨b1, b2, b3⟩, c0, c1, c2⟩ := h
  have gg := dxl_s (es := [(512, 2), (513, 2), (1538, 2), (1539, 2)]) rfl q
  have r1 := dxl_1 (e := (461, 2)) rfl q
  have r2 := dxl_1 (e := (1486, 2)) rfl q
  have r3 := dxl_1 (e := (4, 2)) rfl q
  have r4 := dxl_1 (e := (69, 0)) rfl q
  exact ⟨p.ot k q1, sc.ot k (by rw [List.all_append, Bool.and_eq_true]; exact ⟨dxl_s rfl q, q2⟩), ⟨t0.ot k gg, t1.ot k gg, t2.ot k gg, t3.ot k gg⟩, w.ot k (dxl_s rfl q), hh.ot k (dxl_s rfl q), ⟨(k.I r1).trans a0, (k.I r1).trans a1, (k.I r1).trans a2, (k.I r1).trans a3⟩, ⟨(k.I r2).trans b1, (k.I r2).trans b2, (k.I r2).trans b3⟩, (k.I r3).trans c0, (k.I r3).trans c1, (k.I r4).trans c2⟩
/-- .. the log may change -/
theorem Dc.ob {o : Zs} {X : Dk} {g : Nat → Bool} {e1 e2 e3 m1 m2 m3 : Nat} (h : Dc o g lim n X e1 e2 e3 m1 m2 m3 z) (k : Ot cs z y) (q1 : cs.all (fun e => !stc e.1) = true) (q : dxl.all (fun e => !cs.contains e) = true) : Dc y g lim n X e1 e2 e3 m1 m2 m3 y := by
  obtain ⟨p, sc, ⟨t0, t1, t2, t3⟩, w, hh, ⟨a0, a1, a2, a3⟩, ⟨b1, b2, b3⟩, c0, c1, c2⟩ := h
  have gg := dxl_s (es := [(512, 2), (513, 2), (1538, 2), (1539, 2)]) rfl q
  have r1 := dxl_1 (e := (461, 2)) rfl q
  have r2 := dxl_1 (e := (1486, 2)) rfl q
  have r3 := dxl_1 (e := (4, 2)) rfl q
  have r4 := dxl_1 (e := (69, 0)) rfl q
  exact ⟨p.ot k q1, sc.ob k (dxl_s rfl q), ⟨t0.ot k gg, t1.ot k gg, t2.ot k gg, t3.ot k gg⟩, w.ot k (dxl_s rfl q), hh.ot k (dxl_s rfl q), ⟨(k.I r1).trans a0, (k.I r1).trans a1, (k.I r1).trans a2, (k.I r1).trans a3⟩, ⟨(k.I r2).trans b1, (k.I r2).trans b2, (k.I r2).trans b3⟩, (k.I r3).trans c0, (k.I r3).trans c1, (k.I r4).trans c2⟩
end OTS
/-- the stack of an expression -/
def ckS : List (Nat × Nat) := [(1351, 2)]
/-! expressions -/
theorem fu_4 : ∃ k, FU = k + 1 + 1 + 1 + 1 + 1 := ⟨19995, rfl⟩
theorem reck_3 {z : Zs} {a p s : Nat} {op bb : Int32} {x v : Int64} (h326 : zI z 326 2 0 0 = nI 14) (o0 : zI z 1348 2 0 a = 2) (j0 : zJ z 1349 2 0 a = lN 1) (o1 : zI z 1348 2 0 (a + 1) = 3) (j1 : zJ z 1349 2 0 (a + 1) = x) (o2 : zI z 1348 2 0 (a + 2) = op) (hop : opF opT op = some bb) (ha : a + 3 ≤ 14) (hb : ∀ z', fX5_binary op (zJ z 1410 p s 1) x z' = some (v, z')) : ∃ z', fX5_reckon 2 (nI a) (nI (a + 3)) p s z = some (v, z') ∧ Ot ckS z z' := by
  obtain ⟨k, hk⟩ := fu_4
  refine ⟨sJ (sJ (sJ z 1351 2 0 0 (zJ z 1410 p s 1)) 1351 2 0 1 x) 1351 2 0 0 v, ?_, ((Ot.sJ rfl).tr (Ot.sJ rfl)).tr (Ot.sJ rfl)⟩
  unfold fX5_reckon
  rw [hk, i_0]
  refine (k_col (L := 14) (e := a + 3) (q := 1) (by omega) (by omega) (by omega) (by omega) (by omega) (by omega) h326 o0 j0 (by omega) (by omega) (by omega) (by omega)).trans ?_
  refine (k_num (h := 1) (σ := (sJ z 1351 2 0 0 (zJ z 1410 p s 1))) (L := 14) (e := a + 3) (by omega) (by omega) (by omega) (by omega) (by omega) (by omega) h326 o1 (by omega) (by omega)).trans ?_
  rw [show zJ (sJ z 1351 2 0 0 (zJ z 1410 p s 1)) 1349 2 0 (a + 1) = x from j1]
  refine (k_bi (h := 2) (σ := (sJ (sJ z 1351 2 0 0 (zJ z 1410 p s 1)) 1351 2 0 1 x)) (L := 14) (e := a + 3) (v := v) (by omega) (by omega) (by omega) (by omega) (by omega) (by omega) h326 hop o2 (by omega) (by omega) (by omega) (by omega) (hb _)).trans ?_
  exact k_end (σ := (sJ (sJ (sJ z 1351 2 0 0 (zJ z 1410 p s 1)) 1351 2 0 1 x) 1351 2 0 0 v)) (L := 14) h326 (by omega)
theorem reck_4 {z : Zs} {a p s : Nat} {op bb : Int32} {x v u : Int64} (h326 : zI z 326 2 0 0 = nI 14) (o0 : zI z 1348 2 0 a = 2) (j0 : zJ z 1349 2 0 a = lN 1) (o1 : zI z 1348 2 0 (a + 1) = 3) (j1 : zJ z 1349 2 0 (a + 1) = x) (o2 : zI z 1348 2 0 (a + 2) = op) (o3 : zI z 1348 2 0 (a + 3) = 158) (hop : opF opT op = some bb) (ha : a + 4 ≤ 14) (hb : ∀ z', fX5_binary op (zJ z 1410 p s 1) x z' = some (v, z')) (hu : ∀ z', fX5_unary 158 v z' = some (u, z')) : ∃ z', fX5_reckon 2 (nI a) (nI (a + 4)) p s z = some (u, z') ∧ Ot ckS z z' := by
  obtain ⟨k, hk⟩ := fu_4
  refine ⟨sJ (sJ (sJ (sJ z 1351 2 0 0 (zJ z 1410 p s 1)) 1351 2 0 1 x) 1351 2 0 0 v) 1351 2 0 0 u, ?_, (((Ot.sJ rfl).tr (Ot.sJ rfl)).tr (Ot.sJ rfl)).tr (Ot.sJ rfl)⟩
  unfold fX5_reckon
  rw [hk, i_0]
  refine (k_col (L := 14) (e := a + 4) (q := 1) (by omega) (by omega) (by omega) (by omega) (by omega) (by omega) h326 o0 j0 (by omega) (by omega) (by omega) (by omega)).trans ?_
  refine (k_num (h := 1) (σ := (sJ z 1351 2 0 0 (zJ z 1410 p s 1))) (L := 14) (e := a + 4) (by omega) (by omega) (by omega) (by omega) (by omega) (by omega) h326 o1 (by omega) (by omega)).trans ?_
  rw [show zJ (sJ z 1351 2 0 0 (zJ z 1410 p s 1)) 1349 2 0 (a + 1) = x from j1]
  refine (k_bi (h := 2) (σ := (sJ (sJ z 1351 2 0 0 (zJ z 1410 p s 1)) 1351 2 0 1 x)) (L := 14) (e := a + 4) (v := v) (by omega) (by omega) (by omega) (by omega) (by omega) (by omega) h326 hop o2 (by omega) (by omega) (by omega) (by omega) (hb _)).trans ?_
  refine (k_un (h := 1) (σ := (sJ (sJ (sJ z 1351 2 0 0 (zJ z 1410 p s 1)) 1351 2 0 1 x) 1351 2 0 0 v)) (L := 14) (e := a + 4) (v := u) (by omega) (by omega) (by omega) (by omega) (by omega) (by omega) h326 (Or.inl rfl) o3 (by omega) (by omega) (by omega) (hu _)).trans ?_
  exact k_end (σ := (sJ (sJ (sJ (sJ z 1351 2 0 0 (zJ z 1410 p s 1)) 1351 2 0 1 x) 1351 2 0 0 v) 1351 2 0 0 u)) (L := 14) h326 (by omega)
theorem reck_1 {z : Zs} {a p s : Nat} (h326 : zI z 326 2 0 0 = nI 14) (o0 : zI z 1348 2 0 a = 2) (j0 : zJ z 1349 2 0 a = lN 1) (ha : a + 1 ≤ 14) : ∃ z', fX5_reckon 2 (nI a) (nI (a + 1)) p s z = some (zJ z 1410 p s 1, z') ∧ Ot ckS z z' := by
  obtain ⟨k, hk⟩ := fu_4
  refine ⟨sJ z 1351 2 0 0 (zJ z 1410 p s 1), ?_, Ot.sJ rfl⟩
  unfold fX5_reckon
  rw [hk, i_0]
  refine (k_col (L := 14) (e := a + 1) (q := 1) (by omega) (by omega) (by omega) (by omega) (by omega) (by omega) h326 o0 j0 (by omega) (by omega) (by omega) (by omega)).trans ?_
  exact k_end (σ := (sJ z 1351 2 0 0 (zJ z 1410 p s 1))) (L := 14) h326 (by omega)
/-- what the operations of this program yield -/
theorem bi_gt {x y : Int64} (z : Zs) : fX5_binary 62 x y z = some (if y < x then 1 else 0, z) := by
  simp +decide only [fX5_binary, ↓reduceIte]
  by_cases q : y < x
  · have q1 : ¬ lg_cmp x y ≤ 0 := fun e => by
      have e := l_cmple.mp e
      rw [Int64.le_iff_toInt_le] at e
      rw [Int64.lt_iff_toInt_lt] at q
      omega
    rw [if_neg q1, if_pos q]
  · rw [if_pos (l_cmple.mpr (l_nlt.mp q)), if_neg q]
theorem bi_ne {x y : Int64} (z : Zs) : fX5_binary 15422 x y z = some (if x = y then 0 else 1, z) := by
  simp +decide only [fX5_binary, ↓reduceIte]
  by_cases q : x = y
  · rw [if_pos (l_cmp0.mpr q), if_pos q]
  · rw [if_neg (fun e => q (l_cmp0.mp e)), if_neg q]
theorem un_not {x : Int64} (z : Zs) : fX5_unary 158 x z = some (if x = 0 then 1 else 0, z) := by
  unfold fX5_unary
  rw [if_pos rfl]
  by_cases q : x = 0
  · rw [if_pos (l_cmp0.mpr q), if_pos q]
  · rw [if_neg (fun e => q (l_cmp0.mp e)), if_neg q]
section EXP
variable {lim n p s : Nat} {z : Zs}
/-- v > lim; not (v > lim); v <> 2; v <> 5; v -/
theorem ex_a (h : PF lim n z) : ∃ z', fX5_reckon 2 (nI 0) (nI 3) p s z = some (if lN lim < zJ z 1410 p s 1 then 1 else 0, z') ∧ Ot ckS z z' := reck_3 (a := 0) h.i326_0_0 h.i1348_0_0 h.j1349_0_0 h.i1348_0_1 h.j1349_0_1 h.i1348_0_2 rfl (by decide) (fun z' => bi_gt z')
theorem ex_b (h : PF lim n z) : ∃ z', fX5_reckon 2 (nI 3) (nI 7) p s z = some (if lN lim < zJ z 1410 p s 1 then 0 else 1, z') ∧ Ot ckS z z' := by
  refine reck_4 (a := 3) (v := if lN lim < zJ z 1410 p s 1 then 1 else 0) h.i326_0_0 h.i1348_0_3 h.j1349_0_3 h.i1348_0_4 h.j1349_0_4 h.i1348_0_5 h.i1348_0_6 rfl (by decide) (fun z' => bi_gt z') (fun z' => ?_)
  rw [un_not]
  by_cases q : lN lim < zJ z 1410 p s 1
  · rw [if_pos q, if_pos q, if_neg (by decide)]
  · rw [if_neg q, if_neg q, if_pos rfl]
theorem ex_c (h : PF lim n z) : ∃ z', fX5_reckon 2 (nI 8) (nI 11) p s z = some (if zJ z 1410 p s 1 = 2 then 0 else 1, z') ∧ Ot ckS z z' := reck_3 (a := 8) h.i326_0_0 h.i1348_0_8 h.j1349_0_8 h.i1348_0_9 h.j1349_0_9 h.i1348_0_10 rfl (by decide) (fun z' => bi_ne z')
theorem ex_d (h : PF lim n z) : ∃ z', fX5_reckon 2 (nI 11) (nI 14) p s z = some (if zJ z 1410 p s 1 = 5 then 0 else 1, z') ∧ Ot ckS z z' := reck_3 (a := 11) h.i326_0_0 h.i1348_0_11 h.j1349_0_11 h.i1348_0_12 h.j1349_0_12 h.i1348_0_13 rfl (by decide) (fun z' => bi_ne z')
theorem ex_t (h : PF lim n z) : ∃ z', fX5_reckon 2 (nI 7) (nI 8) p s z = some (zJ z 1410 p s 1, z') ∧ Ot ckS z z' := reck_1 (a := 7) h.i326_0_0 h.i1348_0_7 h.j1349_0_7 (by decide)
end EXP
