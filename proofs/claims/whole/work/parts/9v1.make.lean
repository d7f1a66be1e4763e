/-! ITEMS, both: make, whole -/
section MB
variable {x : Cx} {t : Nat} {σ ρ : Zs} {d : Pd}
theorem NLw.tr {w : Nat} {σ' ρ' : Zs} (h : NLw w σ ρ) (h1 : zI σ' 201 0 0 0 = zI σ 201 0 0 0) (h2 : zI ρ' 911 0 0 0 = zI ρ 911 0 0 0) (h3 : ∀ j, j < w → zJ σ' 1224 0 0 j = zJ σ 1224 0 0 j) (h4 : ∀ j, j < w → zJ ρ' 1936 0 0 j = zJ ρ 1936 0 0 j) : NLw w σ' ρ' :=
  ⟨h1.trans h.1, h2.trans h.2.1, h.2.2.1, fun j hj => (h3 j hj).trans ((h.2.2.2.1 j hj).trans (h4 j hj).symm), fun i j hi hj e => h.2.2.2.2 i j hi hj ((h3 i hi).symm.trans (e.trans (h3 j hj)))⟩
noncomputable def cMk (z : Zs) : Option (Unit × Zs) := bq (fX4_takeName 1 z) fun _ z => bq (fX4_take 61 z) fun _ z => fX4_wholeExpression z
theorem k_cMk {S : Nat} {σ0 z : Zs} (h : St S 0 σ0 z) : Wp1 (cMk z) fun _ => St S 0 σ0 := kb (k_takeName h (by omega) (Or.inr rfl)) fun _ _ h => kb (k_take h) fun _ _ h => k_whole h (by omega)
theorem coC_I {z : Zs} {S n w a b c q s i : Nat} (h : c ≠ 1481 ∧ c ≠ 1482) : zI (coC z S n w a b) c q s i = zI z c q s i := by
  unfold coC
  by_cases q6 : w < 6
  · rw [if_pos q6, sI_c h.2, sI_c h.1]
  · rw [if_neg q6]
theorem coC_J {z : Zs} {S n w a b c q s i : Nat} : zJ (coC z S n w a b) c q s i = zJ z c q s i := by
  unfold coC
  by_cases q6 : w < 6
  · rw [if_pos q6]; rfl
  · rw [if_neg q6]
theorem coC_R {z : Zs} {S n w a b : Nat} : zR (coC z S n w a b) = zR z := by
  unfold coC
  by_cases q6 : w < 6
  · rw [if_pos q6]; rfl
  · rw [if_neg q6]
/-- the state behind a column's expression and the law's say -/
theorem SWN.col {L z np K A w L0 z0 t' : Nat} {nm : Int64} {σb ρb σ4 ρ5 σ' : Zs} {l : List Op} {s u : Int32} {a : Int64} (hD : SWN x d L z σb ρb nm np K A w t σ ρ) (m : qM x = 1) (hw : w + 1 < 1500) (hf : ∀ j, j < w → zJ σ 1224 0 0 j ≠ a) {σ3 ρ3 : Zs} (e3 : ∀ c q s i, [258, 259, 260, 261, 262, 263].contains c = false → zI σ3 c q s i = zI (adN σ w a) c q s i ∧ zJ σ3 c q s i = zJ (adN σ w a) c q s i ∧ zR σ3 c q s i = zR (adN σ w a) c q s i) (e4 : ∀ c q s i, c ≠ 905 → zI ρ3 c q s i = zI ρ c q s i) (e5 : ∀ c q s i, zJ ρ3 c q s i = zJ ρ c q s i) (q : WQ x (dW d A) L0 z0 t' l σ3 ρ3 σ4 s ρ5) (hσ : σ' = coC σ4 (qS x) (dN d) w L0 (L0 + l.length)) (hS : SIx x d L z σb ρb t' σ' ρ5) : SWN x d L z σb ρb nm np K A (w + 1) t' σ' (sayR ρ5 w a s u) := by
  refine ⟨fun q => by omega, fun _ => ?_⟩
  obtain ⟨d1, d2, d3, d4, d5, d6, d7, d8, d9, d10, d11, d12, d13, d14⟩ := hD.2 m
  obtain ⟨w1, w2, w3, w4, w5, w6, w7, w8, w9, w10, w11, w12⟩ := q
  have fC : ∀ c q, [258, 259, 260, 261, 262, 263, 205].contains c = false → [326, 1348, 1349].contains c = false → [258, 259, 260, 261, 262, 263].contains c = false → c ≠ 1481 ∧ c ≠ 1482 → ∀ s i, zI σ' c q s i = zI (adN σ w a) c q s i ∧ zJ σ' c q s i = zJ (adN σ w a) c q s i ∧ zR σ' c q s i = zR (adN σ w a) c q s i := fun c q n1 n2 n0 n3 s i => by
    obtain ⟨f1, f2, f3⟩ := w11.1 c q (wW_n n1 n2) s i
    obtain ⟨g1, g2, g3⟩ := e3 c q s i n0
    rw [hσ, coC_I n3, coC_J, coC_R]
    exact ⟨f1.trans g1, f2.trans g2, f3.trans g3⟩
  have fL : ∀ c q, [905, 907, 908].contains c = false → [785, 1810, 1811].contains c = false → c ≠ 905 ∧ c ≠ 911 ∧ c ≠ 1937 ∧ c ≠ 1938 → ∀ e i, zI (sayR ρ5 w a s u) c q e i = zI ρ c q e i := fun c q n1 n2 n3 e i => by
    rw [sayR_I n3.2, (w12.1 c q (x_wYn n1 n2) e i).1]
    exact e4 c q e i n3.1
  have hN := d14.add (s := s) (u := u) hw hf
  refine ⟨d1, hS.sayR, d3, ?_, ?_, ?_, ?_, ?_, ?_, ?_, ?_, ?_, ?_, hN.tr ?_ ?_ (fun j hj => ?_) (fun j hj => ?_)⟩
  · exact ((fC 448 _ rfl rfl rfl (by decide) _ _).2.1).trans d4
  · exact ((fC 449 _ rfl rfl rfl (by decide) _ _).1).trans (by unfold adN; rw [sI_c (by decide)]; exact d5)
  · exact ((fC 1476 _ rfl rfl rfl (by decide) _ _).1).trans (by unfold adN; rw [sI_c (by decide)]; exact d6)
  · exact ((fC 1476 _ rfl rfl rfl (by decide) _ _).1).trans (by unfold adN; rw [sI_c (by decide)]; exact d7)
  · exact ((fC 202 _ rfl rfl rfl (by decide) _ _).1).trans (by unfold adN; rw [sI_c (by decide)]; exact d8)
  · exact ((fC 198 _ rfl rfl rfl (by decide) _ _).2.2).trans d9
  · exact (fL 1794 _ rfl rfl (by decide) _ _).trans d10
  · exact (fL 1797 _ rfl rfl (by decide) _ _).trans d11
  · exact (fL 1798 _ rfl rfl (by decide) _ _).trans d12
  · exact (fL 910 _ rfl rfl (by decide) _ _).trans d13
  · exact (fC 201 _ rfl rfl rfl (by decide) _ _).1
  · rw [sayR_n, sayR_n]
  · exact (fC 1224 _ rfl rfl rfl (by decide) _ _).2.1
  · obtain ⟨y1, _, _⟩ := sayR_j (ρ := ρ5) (w := w) (j := j) (a := a) (s := s) (u := u)
    obtain ⟨y2, _, _⟩ := sayR_j (ρ := ρ) (w := w) (j := j) (a := a) (s := s) (u := u)
    rw [y1, y2, (w12.1 1936 0 (x_wYn rfl rfl) 0 j).2.1, e5]
def MK8 (x : Cx) (lo w : Nat) (ρ : Zs) : Prop := qM x = 1 → ∀ c, lo ≤ c → c < w → zI ρ 1938 0 0 c = nI 1
theorem s_make1 (hc : Cok x) {L z np A lo w : Nat} {nm : Int64} {σb ρb : Zs} (h : IP x 0 t σ ρ) (hD : SWN x d L z σb ρb nm np 2 A w t σ ρ) (hP : MKP x d A lo w σ ρ) (h8 : MK8 x lo w ρ) (hw : w + 1 < 1500) : SM (Er x 0) (cMk σ) (fX14_makeOne ρ) (fun _ σ' _ ρ' => ∃ t', t + 3 ≤ t' ∧ IP x 0 t' σ' ρ' ∧ SWN x d L z σb ρb nm np 2 A (w + 1) t' σ' ρ' ∧ MKP x d A lo (w + 1) σ' ρ' ∧ MK8 x lo (w + 1) ρ') := by
  unfold cMk fX14_makeOne
  refine sm_b (s_newcol hc h (w := w) (fun m => (hD.1 m).2.1) (fun m => ⟨(hD.2 m).2.1.1, (hD.2 m).2.2.2.2.2.2.2.2.2.2.2.2.2⟩)) (fun _ σ2 a ρ2 q => ?_) (fun _ _ _ _ q => q.go fun h => kb (k_take h) fun _ _ h => k_whole h (by omega))
  obtain ⟨q1, rfl, q3, q4, q5⟩ := q
  refine sm_b (s_take hc q4 (K := 104) rfl (by decide) (show ck 104 = 61 from rfl)) (fun _ σ3 _ ρ3 g => ?_) (fun _ _ _ _ q => q.go fun h => k_whole h (by omega))
  obtain ⟨g1, g2, ⟨ka, kp, kw, g3⟩, g4⟩ := g
  have hst : qM x = 1 → SIx x d L z σb ρb (t + 1 + 1) σ3 ρ3 ∧ (∀ c q s i, [258, 259, 260, 261, 262, 263].contains c = false → zI σ3 c q s i = zI (adN σ w (qw x t)) c q s i ∧ zJ σ3 c q s i = zJ (adN σ w (qw x t)) c q s i ∧ zR σ3 c q s i = zR (adN σ w (qw x t)) c q s i) ∧ MKP x d A lo w σ3 ρ3 := fun m => by
    obtain ⟨_, k, p, v, e2⟩ := q5 m
    obtain ⟨d1, d2, _⟩ := hD.2 m
    rw [g3, g4, q3, e2]
    refine ⟨(d2.adN.av (Nat.le_succ t)).av (Nat.le_succ _), fun c q s i hn => ?_, fun m => hP m⟩
    simp only [List.contains_cons, List.contains_nil, Bool.or_false, Bool.or_eq_false_iff, beq_eq_false_iff_ne] at hn
    refine ⟨?_, ?_, rfl⟩
    · show zI (sI (sI (sI (sI (sI (sI (adN σ w (qw x t)) 259 0 0 0 _) 260 0 0 0 _) 261 0 0 0 _) 259 0 0 0 _) 260 0 0 0 _) 261 0 0 0 _) c q s i = _
      rw [sI_c hn.2.2.2.1, sI_c hn.2.2.1, sI_c hn.2.1, sI_c hn.2.2.2.1, sI_c hn.2.2.1, sI_c hn.2.1]
    · unfold avC
      rw [sJ_c hn.2.2.2.2.1]
      show zJ (sJ _ 262 0 0 0 _) c q s i = _
      rw [sJ_c hn.2.2.2.2.1]; rfl
  have e4 : ∀ c q s i, c ≠ 905 → zI ρ3 c q s i = zI ρ c q s i := fun c q s i hn => by rw [g4, q3, sI_c hn, sI_c hn]
  have e5 : ∀ c q s i, zJ ρ3 c q s i = zJ ρ c q s i := fun c q s i => by rw [g4, q3]; rfl
  have hm3 : qM x = 1 → HB x d L z nm σb ρb ∧ SIx x d L z σb ρb (t + 1 + 1) σ3 ρ3 ∧ A < dN d ∧ zR σ3 198 0 0 0 = (qS x, A) ∧ zI ρ3 910 0 0 0 = nI A ∧ zI σ3 449 (qS x) (dN d) 0 = nI 2 ∧ (2 = 2 ∨ 2 = 7) ∧ zI σ3 201 0 0 0 = nI (w + 1) := fun m => by
    obtain ⟨s1, s2, s3⟩ := hst m
    obtain ⟨d1, d2, d3, d4, d5, d6, d7, d8, d9, d10, d11, d12, d13, d14⟩ := hD.2 m
    refine ⟨d1, s1, d3, ((s2 198 _ _ _ rfl).2.2).trans d9, (e4 910 _ _ _ (by decide)).trans d13, ((s2 449 _ _ _ rfl).1).trans ?_, Or.inl rfl, ((s2 201 _ _ _ rfl).1).trans ?_⟩
    · unfold adN; rw [sI_c (by decide)]; exact d5
    · unfold adN; rw [zI_sI, if_pos ⟨rfl, rfl, rfl, rfl⟩]
  rw [show fX4_wholeExpression σ3 = bq (fX4_wholeExpression σ3) fun _ z => some ((), z) from bq_id.symm]
  refine sm_b (s_colx hc g2 (by omega) hm3) (fun _ σ5 s ρ5 g => ?_) (fun _ _ _ _ q => q.go fun h => h)
  obtain ⟨t', f1, f2, ⟨z1, f3⟩, f4⟩ := g
  rcases m01 hc with m | m
  · rw [bq_e (say_0 (by rw [hc.m f2.2.1, m]))]
    refine sm_ok ⟨t', by omega, f2, ⟨fun _ => ⟨⟨?_, ?_, ?_⟩, ?_, (hD.1 m).2.2⟩, fun q => by omega⟩, fun q => by omega, fun q => by omega⟩
    · exact ((f3.1 768 _ (x_wYn rfl rfl) _ _).1).trans ((e4 _ _ _ _ (by decide)).trans (hD.1 m).1.1)
    · exact ((f3.1 781 _ (x_wYn rfl rfl) _ _).1).trans ((e4 _ _ _ _ (by decide)).trans (hD.1 m).1.2.1)
    · exact ((f3.1 1795 _ (x_wYn rfl rfl) _ _).1).trans ((e4 _ _ _ _ (by decide)).trans (hD.1 m).1.2.2)
    · exact ((f3.1 911 _ (x_wYn rfl rfl) _ _).1).trans ((e4 _ _ _ _ (by decide)).trans (hD.1 m).2.1)
  · obtain ⟨σ4, L0, z0, l, u1, u2, u3, u4, u5, u6, u7, u8, u9⟩ := f4 m
    obtain ⟨s1, s2, s3⟩ := hst m
    obtain ⟨hf, _⟩ := q5 m
    have d14 := (hD.2 m).2.2.2.2.2.2.2.2.2.2.2.2.2
    have e911 : zI ρ5 911 0 0 0 = nI w := ((f3.1 911 _ (x_wYn rfl rfl) _ _).1).trans ((e4 _ _ _ _ (by decide)).trans d14.2.1)
    have ht2 := g2.t5 hc
    have ht' := f2.t5 hc
    rw [bq_e (say_1 (by rw [hc.m f2.2.1, m]) e911 d14.2.2.1)]
    refine sm_ok ⟨t', by omega, f2.lw f2.2.1.sayR rfl rfl rfl, hD.col m hw hf s2 e4 e5 u8 u7 u9, ?_, fun _ c c1 c2 => ?_⟩
    · rw [u7]
      exact s3.add m u3 u4 u8 (by omega) (by omega) ht'
    · obtain ⟨_, _, y3⟩ := sayR_j (ρ := ρ5) (w := w) (j := c) (a := qw x t) (s := s) (u := 1)
      rw [y3]
      by_cases qc : c = w
      · rw [if_pos qc]; rfl
      · rw [if_neg qc, (f3.1 1938 0 (x_wYn rfl rfl) 0 c).1, e4 _ _ _ _ (by decide)]
        exact h8 m c c1 (by omega)
end MB
