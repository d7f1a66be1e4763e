/-! AT THE START; ANEW -/
/-- nothing yet -/
def D0 : Dk := ((0, fun _ => (0, 0, 0)), (0, fun _ => (0, 0, 0)), (0, fun _ => (0, 0, 0)), (0, fun _ => (0, 0, 0, 0)), (0, fun _ => (0, 0, 0, 0)), (0, fun _ => (false, 0, 0, 0)), 0, 0, 0, 0)
/-- the desk after j entries -/
def runD (lim n : Nat) (f : Nat → Rw) : Nat → Dk
  | 0 => D0
  | j + 1 => stp lim n (runD lim n f j) (f j)
theorem runD_e {lim n : Nat} {f g : Nat → Rw} : ∀ j, (∀ i, i < j → f i = g i) → runD lim n f j = runD lim n g j
  | 0, _ => rfl
  | j + 1, h => by
    show stp lim n (runD lim n f j) (f j) = stp lim n (runD lim n g j) (g j)
    rw [runD_e j (fun i hi => h i (by omega)), h j (by omega)]
section ANW
variable {o z : Zs} {lim n k : Nat} {X : Dk} {f : Nat → Rw}
theorem tb_0 {s w : Nat} {t : Nat → Nat} {g : Nat → Nat → Int64} (h1 : zI z 512 2 s 0 = nI 0) (h2 : zI z 513 2 s 0 = nI w) : Tb z s w 0 t g := ⟨h1, h2, fun i hi => absurd hi (by omega), fun i j hi _ => absurd hi (by omega)⟩
theorem okR.st (h : okR lim n z) : St lim n D0 0 f z := by
  have q : ∀ {i : Nat} {e : Nat × Nat × Nat × Nat × Int32}, (ckI n)[i]? = some e → zI z e.1 e.2.1 e.2.2.1 e.2.2.2.1 = e.2.2.2.2 := fun hi => h.1 _ (List.mem_of_getElem? hi)
  refine ⟨⟨h.pf, ⟨⟨q (i := 4) rfl, q (i := 5) rfl, q (i := 0) rfl, q (i := 1) rfl⟩, fun _ _ _ _ _ => ⟨rfl, rfl⟩⟩, ⟨tb_0 (q (i := 27) rfl) (q (i := 28) rfl), tb_0 (q (i := 33) rfl) (q (i := 34) rfl), tb_0 (q (i := 39) rfl) (q (i := 40) rfl), tb_0 (q (i := 45) rfl) (q (i := 46) rfl)⟩, ⟨q (i := 53) rfl, fun i hi => absurd hi (by show ¬ i < 0; omega)⟩, ⟨q (i := 3) rfl, fun i hi => absurd hi (by show ¬ i < 0; omega)⟩, ⟨(q (i := 29) rfl).trans wm_0.symm, (q (i := 35) rfl).trans wm_0.symm, (q (i := 41) rfl).trans wm_0.symm, (q (i := 47) rfl).trans wm_0.symm⟩, ⟨q (i := 36) rfl, q (i := 42) rfl, q (i := 48) rfl⟩, q (i := 72) rfl, q (i := 77) rfl, q (i := 6) rfl⟩, ⟨q (i := 2) rfl, fun i hi => absurd hi (by omega)⟩, q (i := 7) rfl⟩
/-- what a start leaves -/
def stZ (z : Zs) : Zs := enC (ckC (drC (sR z 64 0 0 0 (2, 0)) 2 4) 2 2)
def stl : List (Nat × Nat) := [(66, 0), (67, 0), (68, 0), (69, 0), (4, 2), (512, 2), (640, 2), (513, 2), (461, 2), (1486, 2)]
theorem stZ_O (h : zR z 64 0 0 0 = (2, 0)) : Ot stl z (stZ z) := by
  refine ⟨?_, fun c p s i q => ⟨?_, rfl⟩⟩
  · show zR (sR z 64 0 0 0 (2, 0)) = zR z
    funext c p s i
    rw [zR_sR]
    split
    · rename_i e; rw [e.1, e.2.1, e.2.2.1, e.2.2.2, h]
    · rfl
  · have q' : ∀ e ∈ stl, ¬ ((c, p) = e) := fun e he w => by rw [← w] at he; exact absurd (List.contains_iff_mem.mpr he) (by rw [q]; decide)
    have g : ∀ a b, (a, b) ∈ stl → c = a → p = b → False := fun a b hm e1 e2 => q' _ hm (by rw [e1, e2])
    unfold stZ enC
    rw [zI_sI, if_neg (fun e => g 69 0 (by decide) e.1 e.2.1), zI_sI, if_neg (fun e => g 68 0 (by decide) e.1 e.2.1), zI_sI, if_neg (fun e => g 67 0 (by decide) e.1 e.2.1), zI_sI, if_neg (fun e => g 66 0 (by decide) e.1 e.2.1), zI_ckC, if_neg (fun e => g 4 2 (by decide) e.1 e.2.1), zI_drC, if_neg (fun e => e.1.elim (fun a => g 512 2 (by decide) a e.2.2.1) (fun a => g 640 2 (by decide) a e.2.2.1)), if_neg (fun e => g 513 2 (by decide) e.1 e.2.2.1), if_neg (fun e => g 461 2 (by decide) e.1 e.2.2.1), if_neg (fun e => g 1486 2 (by decide) e.1 e.2.2.1)]
    rfl
theorem stZ_D (h : St lim n X k f z) : Dx (stZ z) lim n D0 0 0 0 0 0 0 (stZ z) ∧ Lg (stZ z) k f ∧ zI (stZ z) 385 3 0 0 = 0 := by
  have ho := stZ_O h.1.1.r64
  have hp := h.1.1
  have w0 : zI z 450 2 0 0 = 2 := hp.i450_0_0
  have w1 : zI z 450 2 1 0 = 2 := hp.i450_1_0
  have w2 : zI z 450 2 2 0 = 2 := hp.i450_2_0
  have w3 : zI z 450 2 3 0 = 4 := hp.i450_3_0
  have s3 : ∀ s, s < 4 → zI (stZ z) 512 2 s 0 = nI 0 := fun s hs => by
    show zI (ckC (drC (sR z 64 0 0 0 (2, 0)) 2 4) 2 2) 512 2 s 0 = _
    rw [zI_ckC, if_neg (fun e => absurd e.1 (by decide)), zI_drC, if_pos ⟨Or.inl rfl, rfl, rfl, hs⟩]; rfl
  have s4 : ∀ s, s < 4 → zI (stZ z) 513 2 s 0 = zI z 450 2 s 0 := fun s hs => by
    show zI (ckC (drC (sR z 64 0 0 0 (2, 0)) 2 4) 2 2) 513 2 s 0 = _
    rw [zI_ckC, if_neg (fun e => absurd e.1 (by decide)), zI_drC, if_neg (fun e => absurd e.1 (by decide)), if_pos ⟨rfl, rfl, rfl, hs⟩]; rfl
  have s5 : ∀ s, s < 4 → zI (stZ z) 461 2 s 0 = wmI 0 := fun s hs => by
    show zI (ckC (drC (sR z 64 0 0 0 (2, 0)) 2 4) 2 2) 461 2 s 0 = _
    rw [zI_ckC, if_neg (fun e => absurd e.1 (by decide)), zI_drC, if_neg (fun e => absurd e.1 (by decide)), if_neg (fun e => absurd e.1 (by decide)), if_pos ⟨rfl, rfl, rfl, hs⟩, wm_0]
  have s6 : ∀ s, s < 4 → zI (stZ z) 1486 2 s 0 = nI 0 := fun s hs => by
    show zI (ckC (drC (sR z 64 0 0 0 (2, 0)) 2 4) 2 2) 1486 2 s 0 = _
    rw [zI_ckC, if_neg (fun e => absurd e.1 (by decide)), zI_drC, if_neg (fun e => absurd e.1 (by decide)), if_neg (fun e => absurd e.1 (by decide)), if_neg (fun e => absurd e.1 (by decide)), if_pos ⟨rfl, by decide, rfl, hs⟩]; rfl
  have s7 : zI (stZ z) 640 2 3 0 = nI 0 := by
    show zI (ckC (drC (sR z 64 0 0 0 (2, 0)) 2 4) 2 2) 640 2 3 0 = _
    rw [zI_ckC, if_neg (fun e => absurd e.1 (by decide)), zI_drC, if_pos ⟨Or.inr rfl, rfl, rfl, by decide⟩]; rfl
  have s8 : ∀ s, s < 2 → zI (stZ z) 4 2 s 0 = nI 0 := fun s hs => by
    show zI (ckC (drC (sR z 64 0 0 0 (2, 0)) 2 4) 2 2) 4 2 s 0 = _
    rw [zI_ckC, if_pos ⟨rfl, rfl, hs, rfl⟩]; rfl
  refine ⟨⟨hp.ot ho rfl, ⟨⟨rfl, rfl, (ho.I rfl).trans h.1.2.1.1.2.2.1, (ho.I rfl).trans h.1.2.1.1.2.2.2⟩, fun _ _ _ _ _ => ⟨rfl, rfl⟩⟩, ⟨tb_0 (s3 0 (by decide)) ((s4 0 (by decide)).trans w0), tb_0 (s3 1 (by decide)) ((s4 1 (by decide)).trans w1), tb_0 (s3 2 (by decide)) ((s4 2 (by decide)).trans w2), tb_0 (s3 3 (by decide)) ((s4 3 (by decide)).trans w3)⟩, ⟨s7, fun i hi => absurd hi (by show ¬ i < 0; omega)⟩, ⟨rfl, fun i hi => absurd hi (by show ¬ i < 0; omega)⟩, ⟨s5 0 (by decide), s5 1 (by decide), s5 2 (by decide), s5 3 (by decide)⟩, ⟨s6 1 (by decide), s6 2 (by decide), s6 3 (by decide)⟩, s8 0 (by decide), s8 1 (by decide), rfl⟩, h.2.1.ot ho rfl, (ho.I rfl).trans h.2.2⟩
theorem anew_l (hl : Lg o k f) (hk : k ≤ 200) (hr : ∀ j, j < k → Rm n (runD lim n f j)) (ht : ∀ j, j < k → (f j).1 ≤ 1000) (hn : 0 < n) (hn2 : n ≤ 1000) : ∀ (m y r : Nat) (z : Zs), y + m = k → m < r → Dx o lim n (runD lim n f y) (kS (runD lim n f y)).1 (kS (runD lim n f y)).1 (kS (runD lim n f y)).1 (kM (runD lim n f y)) (kM (runD lim n f y)) (kM (runD lim n f y)) z → ∃ x, fX11_doLogAnew_15 r 0 (nI y) z = some (0, x) ∧ Dx o lim n (runD lim n f k) (kS (runD lim n f k)).1 (kS (runD lim n f k)).1 (kS (runD lim n f k)).1 (kM (runD lim n f k)) (kM (runD lim n f k)) (kM (runD lim n f k)) x := by
  intro m
  induction m with
  | zero =>
    intro y r z hy hr2 h
    obtain ⟨r, rfl⟩ : ∃ r', r = r' + 1 := ⟨r - 1, by omega⟩
    refine ⟨z, ?_, by rw [show k = y by omega]; exact h⟩
    rw [fX11_doLogAnew_15, (h.lg hl).1, if_pos ((n_le (by omega) (by omega)).mpr (by omega))]
  | succ m ih =>
    intro y r z hy hr2 h
    obtain ⟨r, rfl⟩ : ∃ r', r = r' + 1 := ⟨r - 1, by omega⟩
    obtain ⟨x1, x2, p1, p2, p3, _⟩ := stp_C (s := y) h hl (by omega) (by have := ht y (by omega); omega) (hr y (by omega)) hn hn2
    obtain ⟨x, q1, q2⟩ := ih (y + 1) r x2 (by omega) (by omega) p3
    refine ⟨x, ?_, q2⟩
    rw [fX11_doLogAnew_15, (h.lg hl).1, if_neg (fun q => absurd ((n_le (by omega) (by omega)).mp q) (by omega)), if_pos ((n_gi (by omega)).mpr (by omega)), n_cl (by omega), bq_e p1, if_neg (by decide), bq_e p2, i_1, n_add]
    exact q1
theorem rep_C (h : St lim n (runD lim n f k) k f z) (hk : k ≤ 200) (hr : ∀ j, j < k → Rm n (runD lim n f j)) (ht : ∀ j, j < k → (f j).1 ≤ 1000) (hn : 0 < n) (hn2 : n ≤ 1000) : ∃ x, fX11_replay z = some (.ok 0, x) ∧ St lim n (runD lim n f k) k f x := by
  obtain ⟨d1, d2, d3⟩ := stZ_D h
  obtain ⟨x, q1, q2⟩ := anew_l d2 hk hr ht hn hn2 k 0 FU (stZ z) (by omega) (by have : FU = 20000 := rfl; omega) d1
  refine ⟨x, ?_, q2.ob Ot.rf (cs := []) rfl rfl, q2.lg d2, ((q2.2.1.2 385 3 0 0 rfl).1).trans d3⟩
  have c1 := st_C (P := 2) (N := 4) (M := 2) (σ := z) (by decide) (by decide) h.1.1.i321_0_0 h.1.1.i323_0_0
  unfold fX11_replay
  rw [h.1.1.r707, h.1.1.i321_0_0, if_neg (by decide)]
  unfold fX11_doLogAnew
  rw [h.1.1.r707, bq_e (show fX1_start (2, 0).1 z = some ((), stZ z) from c1), bq_e (show fX11_doLogAnew_15 FU 0 0 (stZ z) = some (0, x) from q1)]
end ANW
