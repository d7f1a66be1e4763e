/-! ITEMS, both: window: one total -/
section WI
variable {x : Cx} {t : Nat} {σ ρ : Zs} {d : Pd}
/-- the class has one column more, named a -/
def NLm (w : Nat) (a : Int64) (σ ρ : Zs) : Prop := zI σ 201 0 0 0 = nI (w + 1) ∧ zI ρ 911 0 0 0 = nI w ∧ w + 1 < 1500 ∧ (∀ j, j < w → zJ σ 1224 0 0 j = zJ ρ 1936 0 0 j) ∧ zJ σ 1224 0 0 w = a ∧ ∀ i j, i < w + 1 → j < w + 1 → zJ σ 1224 0 0 i = zJ σ 1224 0 0 j → i = j
def SWM (x : Cx) (d : Pd) (L z : Nat) (σb ρb : Zs) (nm : Int64) (np K A w : Nat) (a : Int64) (t : Nat) (σ ρ : Zs) : Prop :=
  (qM x = 0 → M0 x ρ ∧ zI ρ 911 0 0 0 = nI 0 ∧ A = 0) ∧ (qM x = 1 → HB x d L z nm σb ρb ∧ SIx x d L z σb ρb t σ ρ ∧ A < dN d ∧ zJ σ 448 (qS x) (dN d) 0 = nm ∧ zI σ 449 (qS x) (dN d) 0 = nI K ∧ zI σ 1476 (qS x) (dN d) 0 = nI A ∧ zI σ 1476 (qS x) (dN d) 1 = -1 ∧ zI σ 202 0 0 0 = nI np ∧ zR σ 198 0 0 0 = (qS x, A)
    ∧ zI ρ 1794 (qG x) 0 (dN d) = nI K ∧ zI ρ 1797 (qG x) 0 (dN d) = nI A ∧ zI ρ 1798 (qG x) 0 (dN d) = -1 ∧ zI ρ 910 0 0 0 = nI A ∧ NLm w a σ ρ)
theorem SWN.new {L z np K A w : Nat} {nm : Int64} {σb ρb : Zs} {a : Int64} (h : SWN x d L z σb ρb nm np K A w t σ ρ) (hw : w + 1 < 1500) (hn : ∀ j, j < w → zJ σ 1224 0 0 j ≠ a) : SWM x d L z σb ρb nm np K A w a t (adN σ w a) ρ := by
  refine ⟨h.1, fun m => ?_⟩
  obtain ⟨d1, d2, d3, d4, d5, d6, d7, d8, d9, d10, d11, d12, d13, d14⟩ := h.2 m
  obtain ⟨n1, n2, n3, n4, n5⟩ := d14.add (s := 0) (u := 0) hw hn
  refine ⟨d1, d2.adN, d3, d4, ?_, ?_, ?_, ?_, d9, d10, d11, d12, d13, n1, d14.2.1, hw, fun j hj => ?_, ?_, n5⟩
  · unfold adN; rw [sI_c (by decide)]; exact d5
  · unfold adN; rw [sI_c (by decide)]; exact d6
  · unfold adN; rw [sI_c (by decide)]; exact d7
  · unfold adN; rw [sI_c (by decide)]; exact d8
  · rw [adN_j, if_neg (by omega)]; exact d14.2.2.2.1 j hj
  · rw [adN_j, if_pos rfl]
theorem SWM.av {L z np K A w t2 u : Nat} {nm : Int64} {σb ρb : Zs} {a : Int64} {k q : Int32} {v : Int32} {wd : Int64} (h : SWM x d L z σb ρb nm np K A w a t σ ρ) (ht : t ≤ t2) : SWM x d L z σb ρb nm np K A w a t2 (avC σ u k q wd) (sI ρ 905 0 0 0 v) := by
  refine ⟨fun m => h.1 m, fun m => ?_⟩
  obtain ⟨d1, d2, d3⟩ := h.2 m
  exact ⟨d1, d2.av' ht, d3⟩
theorem SWM.cI {L z np K A w : Nat} {nm : Int64} {σb ρb : Zs} {a : Int64} {c q s i : Nat} {v : Int32} (h : SWM x d L z σb ρb nm np K A w a t σ ρ) (hw : wI (qS x) (dN d) (dM d) c q s = true) (hn : [326, 1348, 192, 197, 449, 1476, 202, 201].contains c = false) : SWM x d L z σb ρb nm np K A w a t (sI σ c q s i v) ρ := by
  simp only [List.contains_cons, List.contains_nil, Bool.or_false, Bool.or_eq_false_iff, beq_eq_false_iff_ne] at hn
  obtain ⟨n1, n2, n3, n4, n5, n6, n7, n9⟩ := hn
  refine ⟨fun m => h.1 m, fun m => ?_⟩
  obtain ⟨d1, d2, d3, d4, d5, d6, d7, d8, d9, d10, d11, d12, d13, d14⟩ := h.2 m
  exact ⟨d1, d2.cI hw ⟨n1, n2, n3, n4⟩, d3, d4, (sI_c (fun z => n5 z.symm)).trans d5, (sI_c (fun z => n6 z.symm)).trans d6, (sI_c (fun z => n6 z.symm)).trans d7, (sI_c (fun z => n7 z.symm)).trans d8, d9, d10, d11, d12, d13, ⟨(sI_c (fun z => n9 z.symm)).trans d14.1, d14.2⟩⟩
theorem SWM.say {L z np K A w : Nat} {nm : Int64} {σb ρb : Zs} {a : Int64} {s u : Int32} (h : SWM x d L z σb ρb nm np K A w a t σ ρ) (m : qM x = 1) : SWN x d L z σb ρb nm np K A (w + 1) t σ (sayR ρ w a s u) := by
  refine ⟨fun q => by omega, fun _ => ?_⟩
  obtain ⟨d1, d2, d3, d4, d5, d6, d7, d8, d9, d10, d11, d12, d13, n1, n2, n3, n4, n5, n6⟩ := h.2 m
  refine ⟨d1, d2.sayR, d3, d4, d5, d6, d7, d8, d9, (sayR_I (by decide)).trans d10, (sayR_I (by decide)).trans d11, (sayR_I (by decide)).trans d12, (sayR_I (by decide)).trans d13, n1, sayR_n, n3, fun j hj => ?_, n6⟩
  obtain ⟨y1, _, _⟩ := sayR_j (ρ := ρ) (w := w) (j := j) (a := a) (s := s) (u := u)
  rw [y1]
  by_cases q : j = w
  · rw [if_pos q, q]; exact n5
  · rw [if_neg q]; exact n4 j (by omega)
theorem SWM.wq {L z np K A w L0 z0 t' : Nat} {nm : Int64} {σb ρb σ4 ρ5 : Zs} {l : List Op} {s : Int32} {a : Int64} (h : SWM x d L z σb ρb nm np K A w a t σ ρ) (m : qM x = 1) (q : WQ x (dW d A) L0 z0 t' l σ ρ σ4 s ρ5) (hS : SIx x d L z σb ρb t' (coC σ4 (qS x) (dN d) w L0 (L0 + l.length)) ρ5) : SWM x d L z σb ρb nm np K A w a t' (coC σ4 (qS x) (dN d) w L0 (L0 + l.length)) ρ5 := by
  refine ⟨fun q => by omega, fun _ => ?_⟩
  obtain ⟨d1, d2, d3, d4, d5, d6, d7, d8, d9, d10, d11, d12, d13, n1, n2, n3, n4, n5, n6⟩ := h.2 m
  obtain ⟨w1, w2, w3, w4, w5, w6, w7, w8, w9, w10, w11, w12⟩ := q
  have fC : ∀ c q, [258, 259, 260, 261, 262, 263, 205].contains c = false → [326, 1348, 1349].contains c = false → c ≠ 1481 ∧ c ≠ 1482 → ∀ s i, zI (coC σ4 (qS x) (dN d) w L0 (L0 + l.length)) c q s i = zI σ c q s i ∧ zJ (coC σ4 (qS x) (dN d) w L0 (L0 + l.length)) c q s i = zJ σ c q s i ∧ zR (coC σ4 (qS x) (dN d) w L0 (L0 + l.length)) c q s i = zR σ c q s i := fun c q e1 e2 e3 s i => by
    rw [coC_I e3, coC_J, coC_R]
    exact w11.1 c q (wW_n e1 e2) s i
  have fL : ∀ c q, [905, 907, 908].contains c = false → [785, 1810, 1811].contains c = false → ∀ s i, zI ρ5 c q s i = zI ρ c q s i ∧ zJ ρ5 c q s i = zJ ρ c q s i := fun c q e1 e2 s i => ⟨(w12.1 c q (x_wYn e1 e2) s i).1, (w12.1 c q (x_wYn e1 e2) s i).2.1⟩
  exact ⟨d1, hS, d3, ((fC 448 _ rfl rfl (by decide) _ _).2.1).trans d4, ((fC 449 _ rfl rfl (by decide) _ _).1).trans d5, ((fC 1476 _ rfl rfl (by decide) _ _).1).trans d6, ((fC 1476 _ rfl rfl (by decide) _ _).1).trans d7, ((fC 202 _ rfl rfl (by decide) _ _).1).trans d8, ((fC 198 _ rfl rfl (by decide) _ _).2.2).trans d9, ((fL 1794 _ rfl rfl _ _).1).trans d10, ((fL 1797 _ rfl rfl _ _).1).trans d11, ((fL 1798 _ rfl rfl _ _).1).trans d12, ((fL 910 _ rfl rfl _ _).1).trans d13, ((fC 201 _ rfl rfl (by decide) _ _).1).trans n1, ((fL 911 _ rfl rfl _ _).1).trans n2, n3, fun j hj => ((fC 1224 _ rfl rfl (by decide) _ _).2.1).trans ((n4 j hj).trans (fL 1936 _ rfl rfl _ _).2.symm), ((fC 1224 _ rfl rfl (by decide) _ _).2.1).trans n5, fun i j hi hj e => n6 i j hi hj (((fC 1224 _ rfl rfl (by decide) _ _).2.1).symm.trans (e.trans (fC 1224 _ rfl rfl (by decide) _ _).2.1))⟩
/-- the class's total, behind its = -/
noncomputable def cT (σ6 : Zs) : Option (Int32 × Zs) := if (zI σ6 260 0 0 0) = 151 then (bq (fX3_setTotal (zI σ6 260 0 0 0) σ6) fun v9 σ10 => bq (fX4_take (zI σ6 260 0 0 0) σ10) fun v13 σ14 => some ((zI σ6 260 0 0 0), σ14)) else (if (zI σ6 260 0 0 0) = 150 then (bq (fX3_setTotal (zI σ6 260 0 0 0) σ6) fun v17 σ18 => bq (fX4_take (zI σ6 260 0 0 0) σ18) fun v21 σ22 => some ((zI σ6 260 0 0 0), σ22)) else (if (zI σ6 260 0 0 0) = 152 then (bq (fX3_setTotal (zI σ6 260 0 0 0) σ6) fun v25 σ26 => bq (fX4_take (zI σ6 260 0 0 0) σ26) fun v29 σ30 => some ((zI σ6 260 0 0 0), σ30)) else (if (zI σ6 260 0 0 0) = 153 then (bq (fX3_setTotal (zI σ6 260 0 0 0) σ6) fun v33 σ34 => bq (fX4_take (zI σ6 260 0 0 0) σ34) fun v37 σ38 => some ((zI σ6 260 0 0 0), σ38)) else (if (zI σ6 260 0 0 0) = 154 then (bq (fX3_setTotal (zI σ6 260 0 0 0) σ6) fun v45 σ46 => bq (fX4_take (zI σ6 260 0 0 0) σ46) fun v49 σ50 => some ((zI σ6 260 0 0 0), σ50)) else (bq (fX4_fail  σ6) fun v41 σ42 => some ((zI σ6 260 0 0 0), σ42))))))
noncomputable def cTx (z : Zs) : Option (Unit × Zs) := bq (cT z) fun v z => if v = 151 then some ((), z) else fX4_wholeExpression z
noncomputable def cTot (z : Zs) : Option (Unit × Zs) := bq (fX4_takeName 1 z) fun _ z => bq (fX4_take 61 z) fun _ z => cTx z
theorem takeTotal_e : fX4_takeTotal σ = cT σ := rfl
theorem k_cTx {S : Nat} {σ0 z : Zs} (h : St S 0 σ0 z) : Wp1 (cTx z) fun _ => St S 0 σ0 := by
  have g : Wp1 (bq (fX3_setTotal (zI z 260 0 0 0) z) fun _ z2 => bq (fX4_take (zI z 260 0 0 0) z2) fun _ z3 => some ((zI z 260 0 0 0), z3)) fun _ => St S 0 σ0 := kb (k_setTotal h) fun _ _ h => kb (k_take h) fun _ _ h => h
  have g2 : Wp1 (cT z) fun _ => St S 0 σ0 := by
    unfold cT
    refine wp_ite g (wp_ite g (wp_ite g (wp_ite g (wp_ite g ?_))))
    exact kb (k_fail h) fun _ _ h => h
  unfold cTx
  exact kb g2 fun v _ h => wp_ite h (k_whole h (by omega))
theorem k_cTot {S : Nat} {σ0 z : Zs} (h : St S 0 σ0 z) : Wp1 (cTot z) fun _ => St S 0 σ0 := kb (k_takeName h (by omega) (Or.inr rfl)) fun _ _ h => kb (k_take h) fun _ _ h => k_cTx h
theorem cT_e {k : Nat} (h : zI σ 260 0 0 0 = ck k) (h1 : 22 ≤ k) (h2 : k ≤ 26) : cT σ = bq (fX3_setTotal (ck k) σ) fun _ z => bq (fX4_take (ck k) z) fun _ z => some (ck k, z) := by
  have hk : k = 22 ∨ k = 23 ∨ k = 24 ∨ k = 25 ∨ k = 26 := by omega
  unfold cT
  rw [h]
  rcases hk with rfl | rfl | rfl | rfl | rfl
  · rw [if_neg (by decide), if_pos (by decide)]
  · rw [if_pos (by decide)]
  · rw [if_neg (by decide), if_neg (by decide), if_pos (by decide)]
  · rw [if_neg (by decide), if_neg (by decide), if_neg (by decide), if_pos (by decide)]
  · rw [if_neg (by decide), if_neg (by decide), if_neg (by decide), if_neg (by decide), if_pos (by decide)]
theorem w59_e {k39 : Int32 → Zs → Option (Unit × Zs)} {y : Int32} : fX4_window_64 k39 y σ = bq (fX4_takeComma y σ) fun _ z => bq (cTot z) fun _ z => k39 (y + 1) z := by
  unfold fX4_window_64 cTot cTx
  refine congrArg _ (funext fun _ => funext fun z => ?_)
  rw [bq_as]
  refine congrArg _ (funext fun _ => funext fun z => ?_)
  rw [bq_as]
  refine congrArg _ (funext fun _ => funext fun z => ?_)
  rw [takeTotal_e, bq_as]
  refine congrArg _ (funext fun v => funext fun z => ?_)
  rw [bq_if, bq_s]
end WI
