/-! ITEMS, both: window: one total, whole -/
section WJ
variable {x : Cx} {t : Nat} {σ ρ : Zs} {d : Pd}
def WKP (x : Cx) (d : Pd) (lo w : Nat) (σ ρ : Zs) : Prop := qM x = 1 → ∀ c, lo ≤ c → c < w → c < 6 → ∃ k, 22 ≤ k ∧ k ≤ 26 ∧ zI σ 1483 (qS x) (dN d) c = nI (128 + k) ∧ zI ρ 1938 0 0 c = nI k
def WX (x : Cx) (d : Pd) (Y Sp La : Nat) (σ ρ : Zs) : Prop := qM x = 1 → (zI σ 453 (qS x) (dN d) 0 = nI Y ∧ zI σ 455 (qS x) (dN d) 0 = nI Sp ∧ zI σ 456 (qS x) (dN d) 0 = nI La) ∧ zI ρ 1801 (qG x) 0 (dN d) = nI Y ∧ zI ρ 1799 (qG x) 0 (dN d) = nI Sp ∧ zI ρ 1800 (qG x) 0 (dN d) = nI La
/-- the codes, where nothing is emitted -/
theorem MKP.mv {A lo w : Nat} {σ' ρ' : Zs} (h : MKP x d A lo w σ ρ) (e1 : ∀ c q s i, c = 326 ∨ c = 1348 ∨ c = 1481 ∨ c = 1482 → zI σ' c q s i = zI σ c q s i) (e2 : ∀ q s i, zJ σ' 1349 q s i = zJ σ 1349 q s i) (e3 : ∀ c q s i, c = 785 ∨ c = 1810 ∨ c = 1937 ∨ c = 1938 → (c = 1937 ∨ c = 1938 → i < w) → zI ρ' c q s i = zI ρ c q s i) (e4 : ∀ q s i, zJ ρ' 1811 q s i = zJ ρ 1811 q s i) : MKP x d A lo w σ' ρ' := by
  intro m
  obtain ⟨Lc, zc, h1, h2, h3, h4, h5⟩ := h m
  refine ⟨Lc, zc, h1, h2, (e1 _ _ _ _ (by omega)).trans h3, (e3 _ _ _ _ (by omega) (by omega)).trans h4, fun c c1 c2 c3 c4 => ?_⟩
  rw [e3 1938 _ _ _ (by omega) (fun _ => c2)] at c4
  obtain ⟨a, b, l, b4, b5, b6, b7, b8, b9, b10, b11⟩ := h5 c c1 c2 c3 c4
  refine ⟨a, b, l, (e1 _ _ _ _ (by omega)).trans b4, (e1 _ _ _ _ (by omega)).trans b5, b6, fun j hj => ?_, (e3 _ _ _ _ (by omega) (fun _ => c2)).trans b8, b9, ⟨fun j hj => ?_, ?_⟩, b11⟩
  · rw [e1 _ _ _ _ (by omega), e2]; exact b7 j hj
  · rw [e3 _ _ _ _ (by omega) (by omega), e4]; exact b10.1 j hj
  · rw [e3 _ _ _ _ (by omega) (by omega)]; exact b10.2
/-- one column more, with no code -/
theorem MKP.up {A lo w : Nat} (h : MKP x d A lo w σ ρ) (h23 : zI ρ 1938 0 0 w = 23) : MKP x d A lo (w + 1) σ ρ := by
  intro m
  obtain ⟨Lc, zc, h1, h2, h3, h4, h5⟩ := h m
  refine ⟨Lc, zc, h1, h2, h3, h4, fun c c1 c2 c3 c4 => ?_⟩
  by_cases q : c = w
  · subst q; exact absurd h23 c4
  · exact h5 c c1 (by omega) c3 c4
theorem pkC_I {z : Zs} {S n w j c q s i : Nat} (h : c ≠ 1483) : zI (pkC z S n w j) c q s i = zI z c q s i := by
  unfold pkC
  by_cases q6 : w < 6
  · rw [if_pos q6, sI_c h]
  · rw [if_neg q6]
theorem pkC_J {z : Zs} {S n w j c q s i : Nat} : zJ (pkC z S n w j) c q s i = zJ z c q s i := by
  unfold pkC
  by_cases q6 : w < 6
  · rw [if_pos q6]; rfl
  · rw [if_neg q6]
theorem pkC_R {z : Zs} {S n w j : Nat} : zR (pkC z S n w j) = zR z := by
  unfold pkC
  by_cases q6 : w < 6
  · rw [if_pos q6]; rfl
  · rw [if_neg q6]
theorem sayR_lt {w : Nat} {a : Int64} {s u : Int32} {c q e i : Nat} (h : c ≠ 911) (hi : c = 1937 ∨ c = 1938 → i < w) : zI (sayR ρ w a s u) c q e i = zI ρ c q e i := by
  unfold sayR
  rw [sI_c h, zI_sI, if_neg (fun z => by have := hi (Or.inr z.1); omega), zI_sI, if_neg (fun z => by have := hi (Or.inl z.1); omega)]
  rfl
theorem s_tot1 (hc : Cok x) {L z np A lo w Y Sp La : Nat} {nm : Int64} {σb ρb : Zs} (h : IP x 0 t σ ρ) (hD : SWN x d L z σb ρb nm np 7 A w t σ ρ) (hP : MKP x d A lo w σ ρ) (hK : WKP x d lo w σ ρ) (hX : WX x d Y Sp La σ ρ) (hw : w + 1 < 1500) : SM (Er x 0) (cTot σ) (fX14_totalOne ρ) (fun _ σ' _ ρ' => ∃ t', t + 3 ≤ t' ∧ IP x 0 t' σ' ρ' ∧ SWN x d L z σb ρb nm np 7 A (w + 1) t' σ' ρ' ∧ MKP x d A lo (w + 1) σ' ρ' ∧ WKP x d lo (w + 1) σ' ρ' ∧ WX x d Y Sp La σ' ρ') := by
  unfold cTot fX14_totalOne
  refine sm_b (s_newcol hc h (w := w) (fun m => (hD.1 m).2.1) (fun m => ⟨(hD.2 m).2.1.1, (hD.2 m).2.2.2.2.2.2.2.2.2.2.2.2.2⟩)) (fun _ σ2 a ρ2 q => ?_) (fun _ _ _ _ q => q.go fun h => kb (k_take h) fun _ _ h => k_cTx h)
  obtain ⟨q1, rfl, q3, q4, q5⟩ := q
  refine sm_b (s_take hc q4 (K := 104) rfl (by decide) (show ck 104 = 61 from rfl)) (fun _ σ3 _ ρ3 g => ?_) (fun _ _ _ _ q => q.go fun h => k_cTx h)
  obtain ⟨g1, g2, ⟨ka, kp, kw, g3⟩, g4⟩ := g
  -- behind =
  have hst : SWM x d L z σb ρb nm np 7 A w (qw x t) (t + 1 + 1) σ3 ρ3 ∧ MKP x d A lo w σ3 ρ3 ∧ WKP x d lo w σ3 ρ3 ∧ WX x d Y Sp La σ3 ρ3 := by
    rcases m01 hc with m | m
    · refine ⟨⟨fun _ => ?_, fun q => by omega⟩, fun q => by omega, fun q => by omega, fun q => by omega⟩
      rw [g4, q3]; exact hD.1 m
    · obtain ⟨hf, k, p, v, e2⟩ := q5 m
      rw [g3, g4, q3, e2]
      refine ⟨((hD.new hw hf).av (Nat.le_succ t)).av (Nat.le_succ _), fun m => hP m, fun m c c1 c2 c3 => ?_, fun m => ?_⟩
      · obtain ⟨k, k1, k2, k3, k4⟩ := hK m c c1 c2 c3
        exact ⟨k, k1, k2, k3, k4⟩
      · obtain ⟨⟨x1, x2, x3⟩, x4, x5, x6⟩ := hX m
        refine ⟨⟨?_, ?_, ?_⟩, x4, x5, x6⟩
        · show zI (adN σ w (qw x t)) 453 (qS x) (dN d) 0 = _; unfold adN; rw [sI_c (by decide)]; exact x1
        · show zI (adN σ w (qw x t)) 455 (qS x) (dN d) 0 = _; unfold adN; rw [sI_c (by decide)]; exact x2
        · show zI (adN σ w (qw x t)) 456 (qS x) (dN d) 0 = _; unfold adN; rw [sI_c (by decide)]; exact x3
  obtain ⟨hM, hP3, hK3, hX3⟩ := hst
  have hv := g2.vk hc
  obtain ⟨kk, hkk⟩ : ∃ k, k = qk x (t + 1 + 1) := ⟨_, rfl⟩
  rw [if_pos (g2.g5 hc), g2.k9 hc, ← hkk, bq_e (show fX14_isIn (nI kk).toInt64 22 26 ρ3 = _ from in_R (lo := 22) (hi := 26) (by omega) (by decide) (by decide))]
  by_cases qq : 22 ≤ kk ∧ kk ≤ 26
  · rw [if_pos qq, if10]
    unfold cTx
    rw [cT_e (by rw [g2.c0, ← hkk]) qq.1 qq.2, bq_as]
    obtain ⟨⟨⟩, σ4, e1, k1, k2⟩ := wp_ex (wp_an (k_setTotal g2.1 (x := ck kk)) (mf_X3_setTotal MF.rf))
    have hI4 : IP x 0 (t + 1 + 1) σ4 ρ3 := g2.mf k1 k2
    obtain ⟨σ5, a1, a2, a3, ⟨kb', kp', kw', a4⟩, _⟩ := s_tk hc hI4 (by omega)
    have hck : ck kk = nI (128 + kk) := by unfold ck; rw [if_pos (by omega)]
    have hσ4 : qM x = 1 → σ4 = pkC σ3 (qS x) (dN d) w (128 + kk) := fun m => by
      obtain ⟨d1, d2, d3, d4, d5, d6, d7, d8, d9, d10, d11, d12, d13, d14⟩ := hM.2 m
      have s1 : (zR σ3 195 0 0 0).1 = qS x := by rw [d2.2.2.1]
      have s2 : (zR σ3 195 0 0 0).2 = dN d := by rw [d2.2.2.1]
      unfold fX3_setTotal at e1
      rw [if_pos d2.1, s1, s2, hck, bq_e (sp_C d14.1 (by omega))] at e1
      cases e1; rfl
    rw [bq_e e1, bq_as, bq_e (a1 (ck kk) (by rw [hkk])), bq_s, bw_e a2]
    have hM5 : SWM x d L z σb ρb nm np 7 A w (qw x t) (t + 1 + 1 + 1) σ5 (sI ρ3 905 0 0 0 (nI (t + 1 + 1 + 1))) := by
      rcases m01 hc with m | m
      · exact ⟨fun _ => hM.1 m, fun q => by omega⟩
      · rw [a4, hσ4 m]
        refine SWM.av ?_ (Nat.le_succ _)
        unfold pkC
        by_cases q6 : w < 6
        · rw [if_pos q6]; exact hM.cI (wI_S rfl) rfl
        · rw [if_neg q6]; exact hM
    have hP5 : MKP x d A lo w σ5 (sI ρ3 905 0 0 0 (nI (t + 1 + 1 + 1))) := by
      rcases m01 hc with m | m
      · exact fun q => by omega
      · refine hP3.mv (fun c q s i hcc => ?_) (fun q s i => ?_) (fun c q s i hcc _ => sI_c (by omega)) (fun _ _ _ => rfl)
        · rw [a4, hσ4 m]
          have e0 : zI (avC (pkC σ3 (qS x) (dN d) w (128 + kk)) (t + 1 + 1) kb' kp' kw') c q s i = zI (pkC σ3 (qS x) (dN d) w (128 + kk)) c q s i := by
            show zI (sI (sI (sI _ 259 0 0 0 _) 260 0 0 0 _) 261 0 0 0 _) c q s i = _
            rw [sI_c (by omega), sI_c (by omega), sI_c (by omega)]
          rw [e0, pkC_I (by omega)]
        · rw [a4, hσ4 m]
          show zJ (pkC σ3 (qS x) (dN d) w (128 + kk)) 1349 q s i = _
          rw [pkC_J]
    have e83 : qM x = 1 → ∀ c, zI σ5 1483 (qS x) (dN d) c = if c = w ∧ w < 6 then nI (128 + kk) else zI σ3 1483 (qS x) (dN d) c := fun m c => by
      rw [a4, hσ4 m]
      show zI (pkC σ3 (qS x) (dN d) w (128 + kk)) 1483 (qS x) (dN d) c = _
      unfold pkC
      by_cases q6 : w < 6
      · rw [if_pos q6, zI_sI]
        by_cases qc : c = w
        · rw [if_pos ⟨rfl, rfl, rfl, qc⟩, if_pos ⟨qc, q6⟩]
        · rw [if_neg (fun z => qc z.2.2.2), if_neg (fun z => qc z.1)]
      · rw [if_neg q6, if_neg (fun z => q6 z.2)]
    have hX5 : WX x d Y Sp La σ5 (sI ρ3 905 0 0 0 (nI (t + 1 + 1 + 1))) := fun m => by
      obtain ⟨⟨x1, x2, x3⟩, x4, x5, x6⟩ := hX3 m
      rw [a4, hσ4 m]
      refine ⟨⟨?_, ?_, ?_⟩, x4, x5, x6⟩
      · show zI (pkC σ3 (qS x) (dN d) w (128 + kk)) 453 (qS x) (dN d) 0 = _; rw [pkC_I (by decide)]; exact x1
      · show zI (pkC σ3 (qS x) (dN d) w (128 + kk)) 455 (qS x) (dN d) 0 = _; rw [pkC_I (by decide)]; exact x2
      · show zI (pkC σ3 (qS x) (dN d) w (128 + kk)) 456 (qS x) (dN d) 0 = _; rw [pkC_I (by decide)]; exact x3
    by_cases q23 : kk = 23
    · -- a count
      subst q23
      rw [if_pos (show ck 23 = 151 from rfl), if_pos (show (nI 23 : Int32) = 23 from rfl)]
      rcases m01 hc with m | m
      · rw [bq_e (say_0 (by rw [hc.m a3.2.1, m]))]
        exact sm_ok ⟨_, by omega, a3, ⟨fun _ => hM5.1 m, fun q => by omega⟩, fun q => by omega, fun q => by omega, fun q => by omega⟩
      · have d14 := (hM5.2 m).2.2.2.2.2.2.2.2.2.2.2.2.2
        rw [bq_e (say_1 (by rw [hc.m a3.2.1, m]) d14.2.1 (by omega))]
        refine sm_ok ⟨_, by omega, a3.lw a3.2.1.sayR rfl rfl rfl, hM5.say m, MKP.up ?_ ?_, fun _ c c1 c2 c3 => ?_, fun _ => ?_⟩
        · refine hP5.mv (fun _ _ _ _ _ => rfl) (fun _ _ _ => rfl) (fun c q s i hcc hi => ?_) (fun q s i => sayR_J (by decide))
          exact sayR_lt (by omega) hi
        · obtain ⟨_, _, y3⟩ := sayR_j (ρ := sI ρ3 905 0 0 0 (nI (t + 1 + 1 + 1))) (w := w) (j := w) (a := qw x t) (s := 0) (u := nI 23)
          rw [y3, if_pos rfl]; rfl
        · obtain ⟨_, _, y3⟩ := sayR_j (ρ := sI ρ3 905 0 0 0 (nI (t + 1 + 1 + 1))) (w := w) (j := c) (a := qw x t) (s := 0) (u := nI 23)
          by_cases qc : c = w
          · refine ⟨23, by decide, by decide, ?_, ?_⟩
            · rw [e83 m, if_pos ⟨qc, by omega⟩]
            · rw [y3, if_pos qc]
          · obtain ⟨k, k1', k2', k3, k4⟩ := hK3 m c c1 (by omega) c3
            refine ⟨k, k1', k2', ?_, ?_⟩
            · rw [e83 m, if_neg (fun z => qc z.1)]; exact k3
            · rw [y3, if_neg qc]; exact k4
        · obtain ⟨x1, x4, x5, x6⟩ := hX5 m
          exact ⟨x1, (sayR_I (by decide)).trans x4, (sayR_I (by decide)).trans x5, (sayR_I (by decide)).trans x6⟩
    · -- a total over an expression
      have n151 : ¬ ck kk = 151 := ck_ne (j := 23) (by rw [hkk]; exact hv.1) rfl q23
      rw [if_neg n151, if_neg (show ¬ (nI kk : Int32) = 23 by rw [show (23 : Int32) = nI 23 from rfl, n_eq (by omega) (by omega)]; exact q23)]
      have hm5 : qM x = 1 → HB x d L z nm σb ρb ∧ SIx x d L z σb ρb (t + 1 + 1 + 1) σ5 (sI ρ3 905 0 0 0 (nI (t + 1 + 1 + 1))) ∧ A < dN d ∧ zR σ5 198 0 0 0 = (qS x, A) ∧ zI (sI ρ3 905 0 0 0 (nI (t + 1 + 1 + 1))) 910 0 0 0 = nI A ∧ zI σ5 449 (qS x) (dN d) 0 = nI 7 ∧ (7 = 2 ∨ 7 = 7) ∧ zI σ5 201 0 0 0 = nI (w + 1) := fun m => by
        obtain ⟨d1, d2, d3, d4, d5, d6, d7, d8, d9, d10, d11, d12, d13, d14⟩ := hM5.2 m
        exact ⟨d1, d2, d3, d9, d13, d5, Or.inr rfl, d14.1⟩
      rw [show fX4_wholeExpression σ5 = bq (fX4_wholeExpression σ5) fun _ z => some ((), z) from bq_id.symm]
      refine sm_b (s_colx hc a3 (by omega) hm5) (fun _ σ7 s ρ7 g => ?_) (fun _ _ _ _ q => q.go fun h => h)
      obtain ⟨t', f1, f2, ⟨z1, f3⟩, f4⟩ := g
      rcases m01 hc with m | m
      · rw [bq_e (say_0 (by rw [hc.m f2.2.1, m]))]
        obtain ⟨⟨m1, m2, m3⟩, m4, m5⟩ := hM5.1 m
        exact sm_ok ⟨t', by omega, f2, ⟨fun _ => ⟨⟨((f3.1 768 _ (x_wYn rfl rfl) _ _).1).trans m1, ((f3.1 781 _ (x_wYn rfl rfl) _ _).1).trans m2, ((f3.1 1795 _ (x_wYn rfl rfl) _ _).1).trans m3⟩, ((f3.1 911 _ (x_wYn rfl rfl) _ _).1).trans m4, m5⟩, fun q => by omega⟩, fun q => by omega, fun q => by omega, fun q => by omega⟩
      · obtain ⟨σ8, L0, z0, l, u1, u2, u3, u4, u5, u6, u7, u8, u9⟩ := f4 m
        rw [u7] at u9
        have hM7 := hM5.wq m u8 u9
        have d14 := (hM7.2 m).2.2.2.2.2.2.2.2.2.2.2.2.2
        have ht2 := a3.t5 hc
        have ht' := f2.t5 hc
        rw [bq_e (say_1 (by rw [hc.m f2.2.1, m]) d14.2.1 (by omega)), u7]
        refine sm_ok ⟨t', by omega, (by rw [← u7]; exact f2.lw f2.2.1.sayR rfl rfl rfl), hM7.say m, hP5.add m u3 u4 u8 (by omega) (by omega) ht', fun _ c c1 c2 c3 => ?_, fun _ => ?_⟩
        rotate_left
        · obtain ⟨⟨x1, x2, x3⟩, x4, x5, x6⟩ := hX5 m
          have fr := fun c e1 e2 => (u8.2.2.2.2.2.2.2.2.2.2.1.1 c (qS x) (wW_n e1 e2) (dN d) 0).1
          exact ⟨⟨(coC_I (by decide)).trans ((fr 453 rfl rfl).trans x1), (coC_I (by decide)).trans ((fr 455 rfl rfl).trans x2), (coC_I (by decide)).trans ((fr 456 rfl rfl).trans x3)⟩, (sayR_I (by decide)).trans (((f3.1 1801 _ (x_wYn rfl rfl) _ _).1).trans x4), (sayR_I (by decide)).trans (((f3.1 1799 _ (x_wYn rfl rfl) _ _).1).trans x5), (sayR_I (by decide)).trans (((f3.1 1800 _ (x_wYn rfl rfl) _ _).1).trans x6)⟩
        obtain ⟨_, _, y3⟩ := sayR_j (ρ := ρ7) (w := w) (j := c) (a := qw x t) (s := s) (u := nI kk)
        have x83 : zI (coC σ8 (qS x) (dN d) w L0 (L0 + l.length)) 1483 (qS x) (dN d) c = zI σ5 1483 (qS x) (dN d) c := by
          rw [coC_I (by decide)]
          exact (u8.2.2.2.2.2.2.2.2.2.2.1.1 1483 _ (wW_n rfl rfl) _ _).1
        by_cases qc : c = w
        · refine ⟨kk, qq.1, qq.2, ?_, ?_⟩
          · rw [x83, e83 m, if_pos ⟨qc, by omega⟩]
          · rw [y3, if_pos qc]
        · obtain ⟨k, k1', k2', k3, k4⟩ := hK3 m c c1 (by omega) c3
          refine ⟨k, k1', k2', ?_, ?_⟩
          · rw [x83, e83 m, if_neg (fun z => qc z.1)]; exact k3
          · rw [y3, if_neg qc, (f3.1 1938 0 (x_wYn rfl rfl) 0 c).1]; exact k4
  · rw [if_neg qq, if00, bq_e (g2.wr hc)]
    have hn : ∀ k, 22 ≤ k → k ≤ 26 → ¬ zI σ3 260 0 0 0 = ck k := fun k h1 h2 z => by
      rw [g2.c0, ← hkk] at z
      have := (ck_e (k := kk) (j := k) (by rw [hkk]; exact hv.1) (by unfold vk; simp; omega)).mp z
      omega
    have ecT : cT σ3 = bq (fX4_fail σ3) fun _ z => some ((zI σ3 260 0 0 0), z) := by
      unfold cT
      rw [if_neg (show ¬ zI σ3 260 0 0 0 = 151 from hn 23 (by decide) (by decide)), if_neg (show ¬ zI σ3 260 0 0 0 = 150 from hn 22 (by decide) (by decide)), if_neg (show ¬ zI σ3 260 0 0 0 = 152 from hn 24 (by decide) (by decide)), if_neg (show ¬ zI σ3 260 0 0 0 = 153 from hn 25 (by decide) (by decide)), if_neg (show ¬ zI σ3 260 0 0 0 = 154 from hn 26 (by decide) (by decide))]
    unfold cTx
    obtain ⟨⟨⟩, z3, w2, w3⟩ := wp_ex (Er.fail g2.2.2.1 hc g2.1 g2.2.1)
    rw [ecT, bq_e (show bq (fX4_fail σ3) (fun _ z => some ((zI σ3 260 0 0 0), z)) = some ((zI σ3 260 0 0 0), z3) by rw [bq_e w2])]
    refine sm_x (w3.go fun h => ?_)
    exact wp_ite h (k_whole h (by omega))
end WJ
