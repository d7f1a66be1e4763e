/-! ITEMS, both: keep -/
theorem wW_n {S c q : Nat} (h1 : [258, 259, 260, 261, 262, 263, 205].contains c = false) (h2 : [326, 1348, 1349].contains c = false) : wW S c q = false := by unfold wW; rw [h1, h2]; simp
noncomputable def lEnd (nm : Int64) (p n : Int32) (ρ : Zs) : Option (Except (Int32 × Int32) Unit × Zs) := if (6 : Int32) < zI ρ 911 0 0 0 then fX14_item_221 nm p n 0 ρ else fX14_item_221 nm p n 1 ρ
noncomputable def cEnd (z : Zs) : Option (Unit × Zs) := bq (fX3_endStream z) fun _ z => some ((), z)
def FIN (x : Cx) (d : Pd) (t : Nat) (nm : Int64) (np : Nat) (σ ρ : Zs) : Prop := (qM x = 0 → M0 x ρ ∧ zI ρ 911 0 0 0 = nI 0) ∧ (qM x = 1 → fX3_endStream σ = fX3_endStream_63 σ ∧ zI σ 202 0 0 0 = nI np ∧ ∃ w, NEWp x d t w nm σ ρ)
section KE
variable {x : Cx} {t : Nat} {σ ρ : Zs} {d : Pd}
theorem s_finN (hc : Cok x) {nm : Int64} {np : Nat} (h : IP x 0 t σ ρ) (hF : FIN x d t nm np σ ρ) : SM (Er0 x) (cEnd σ) (lEnd nm (nI np) (nI (sIdx x d)) ρ) (fun _ σ' _ ρ' => ∃ d', ITm x d' t σ' ρ') := by
  rcases m01 hc with m | m
  · exact s_fin' (d := d) (w := 0) hc h hF.1 (fun q => by omega)
  · obtain ⟨h1, h2, w, h3⟩ := hF.2 m
    exact s_fin' (w := w) hc h hF.1 (fun _ => ⟨h1, h2, h3⟩)
theorem s_body (hc : Cok x) {nm : Int64} {np : Nat} {o : Option (Unit × Zs)} {r : Option (Except (Int32 × Int32) Unit × Zs)} (hB : SM (Er x 0) o r (fun _ σ' _ ρ' => ∃ t', t ≤ t' ∧ IP x 0 t' σ' ρ' ∧ FIN x d t' nm np σ' ρ')) : SM (Er0 x) (bq o fun _ z => cEnd z) (bw r fun _ ρ => lEnd nm (nI np) (nI (sIdx x d)) ρ) (fun _ σ' _ ρ' => ∃ t' d', t ≤ t' ∧ ITm x d' t' σ' ρ') := by
  refine sm_b hB (fun _ σ4 _ ρ4 g => ?_) (fun _ _ _ _ g => g.go0 fun h => kb0 (k_endStream h) fun _ _ h => h)
  obtain ⟨t', g1, g2, g3⟩ := g
  exact sm_m (s_finN hc g2 g3) fun _ _ _ _ ⟨d', q⟩ => ⟨t', d', g1, q⟩
theorem SIx.wh {L z W L0 z0 t' : Nat} {l : List Op} {s : Int32} {σ1 ρ' σb ρb : Zs} (h : SIx x d L z σb ρb t σ ρ) (q : WQ x W L0 z0 t' l σ ρ σ1 s ρ') (hL : L ≤ L0) (hz : z ≤ z0) : SIx x d L z σb ρb t' σ1 ρ' := by
  obtain ⟨h1, h2, h3, h4, h5, _⟩ := h
  obtain ⟨q1, q2, q3, q4, q5, q6, q7, q8, q9, q10, q11, q12⟩ := q
  exact ⟨q2, ((q11.1 197 0 (wW_n rfl rfl) 0 0).1).trans h2, ((q11.1 195 0 (wW_n rfl rfl) 0 0).2.2).trans h3, h4.tr (q11.ifc.dn hL), h5.tr (q12.ifl.dn hz), L0 + l.length, z0 + l.length + 1, by omega, by omega, q9, q10, q4, q7⟩
/-- the scope of a step's expressions -/
theorem SIx.scp {L z A : Nat} {nm : Int64} {σb ρb : Zs} (h : SIx x d L z σb ρb t σ ρ) (hB : HB x d L z nm σb ρb) (hA : A < dN d) (h1 : zR σ 198 0 0 0 = (qS x, A)) (h2 : zI ρ 910 0 0 0 = nI A) : Scp x A (dW d A) σ ρ := by
  obtain ⟨c1, _⟩ := (h.old hB).col hB.1 hA
  exact ⟨c1.1, c1.2.1, h1, h2, c1.2.2.1, c1.2.2.2.1, c1.2.2.2.2⟩
theorem WFC.av {S L0 : Nat} {σ3 : Zs} {k p : Int32} {w : Int64} (h : WFC S L0 (avC σ t k p w) σ3) {c q : Nat} (e1 : [258, 259, 260, 261, 262, 263, 205].contains c = false) (e2 : [326, 1348, 1349].contains c = false) (s i : Nat) : zI σ3 c q s i = zI σ c q s i ∧ zJ σ3 c q s i = zJ σ c q s i ∧ zR σ3 c q s i = zR σ c q s i := by
  obtain ⟨a1, a2, a3⟩ := h.1 c q (wW_n e1 e2) s i
  rw [a1, a2, a3]
  simp only [List.contains_cons, List.contains_nil, Bool.or_false, Bool.or_eq_false_iff, beq_eq_false_iff_ne] at e1
  refine ⟨?_, ?_, rfl⟩
  · show zI (sI (sI (sI σ 259 0 0 0 _) 260 0 0 0 _) 261 0 0 0 _) c q s i = _
    rw [sI_c e1.2.2.2.1, sI_c e1.2.2.1, sI_c e1.2.1]
  · unfold avC
    rw [sJ_c e1.2.2.2.2.1]; rfl
theorem XFL.av {g z0 : Nat} {ρ4 : Zs} {v : Int32} (h : XFL g z0 (sI ρ 905 0 0 0 v) ρ4) {c q : Nat} (e1 : [905, 907, 908].contains c = false) (e2 : [785, 1810, 1811].contains c = false) (s i : Nat) : zI ρ4 c q s i = zI ρ c q s i ∧ zJ ρ4 c q s i = zJ ρ c q s i ∧ zR ρ4 c q s i = zR ρ c q s i := by
  obtain ⟨a1, a2, a3⟩ := h.1 c q (x_wYn e1 e2) s i
  rw [a1, a2, a3]
  simp only [List.contains_cons, List.contains_nil, Bool.or_false, Bool.or_eq_false_iff, beq_eq_false_iff_ne] at e1
  exact ⟨sI_c e1.1, rfl, rfl⟩
noncomputable def lKeep (n w12 : Int32) (ρ23 : Zs) : Option (Except (Int32 × Int32) Unit × Zs) := bw (fX14_take_ 4 ρ23) fun w184 ρ181 => if (zR ρ181 909 0 0 0).2 = 0 then bw (fX14_whole  ρ181) fun w191 ρ188 => if gi n 12 then lt (sI ρ188 1799 ((zR ρ181 909 0 0 0).1) 0 (Int32.toNatClampNeg n) w191) fun ρ193 => bq (fX14_sayAll w12 (-1) ρ193) fun v195 ρ196 => some (.ok (), ρ196) else none else none
theorem sIdx12 {L z : Nat} {nm : Int64} {σb ρb : Zs} (hc : Cok x) (hB : qM x = 1 → HB x d L z nm σb ρb) : sIdx x d < 12 := by
  rcases m01 hc with m | m
  · unfold sIdx; rw [if_pos m]; decide
  · rw [sIdx_1 m]; exact (hB m).2.2.1
theorem end_code {k : Nat} {S n a b : Nat} (h1 : zI σ 192 0 0 0 = 0) (h2 : zI σ 197 0 0 0 = 0) (h3 : zR σ 195 0 0 0 = (S, n)) (h4 : zR σ 194 0 0 0 = (S, 0)) (h5 : zI σ 205 0 0 0 = nI a) (h6 : zI σ 326 S 0 0 = nI b) (hk : (zI σ 449 S n 0 = 1 ∧ k = 0) ∨ (¬ zI σ 449 S n 0 = 1 ∧ zI σ 201 0 0 0 = nI (k + 1))) (hk6 : k < 6) : fX3_endExpression σ = some ((), sI (sI σ 1481 S n k (nI a)) 1482 S n k (nI b)) := by
  have s1 : (zR σ 195 0 0 0).1 = S := by rw [h3]
  have s2 : (zR σ 195 0 0 0).2 = n := by rw [h3]
  have s4 : (zR σ 194 0 0 0).1 = S := by rw [h4]
  have hsc : fX7_setCode S n (nI k) (nI a) (nI b) σ = some ((), sI (sI σ 1481 S n k (nI a)) 1482 S n k (nI b)) := by
    unfold fX7_setCode
    have g : gi (nI k) 6 := (n_gi (by omega)).mpr hk6
    rw [if_neg (m1_lt (by omega)), i_6, if_neg (fun z => by have := (n_le (by omega) (by omega)).mp z; omega), if_pos g, lt_k, if_pos g, lt_k, n_cl (by omega)]
  unfold fX3_endExpression
  rw [if_pos h1, if_pos h2, s1, s2, s4, h5, h6]
  rcases hk with ⟨k1, k2⟩ | ⟨k1, k2⟩
  · subst k2
    rw [if_pos k1, bq_e (show fX7_setCode S n 0 (nI a) (nI b) σ = _ from hsc)]
  · have e : (nI (k + 1) : Int32) - 1 = nI k := by rw [i_1, n_sub (by omega)]; rfl
    rw [if_neg k1, k2, e, bq_e hsc]
theorem x_keep (hc : Cok x) {L z np A wp : Nat} {nm : Int64} {σb ρb : Zs} (h : IP x 0 t σ ρ) (hD : SWK x d L z σb ρb nm np 1 A wp t σ ρ) : SM (Er x 0) (bq (fX4_take 132 σ) fun _ z => fX4_wholeExpression z) (lKeep (nI (sIdx x d)) (nI A) ρ) (fun _ σ' _ ρ' => ∃ t', t ≤ t' ∧ IP x 0 t' σ' ρ' ∧ FIN x d t' nm np σ' ρ') := by
  have hs12 : sIdx x d < 12 := sIdx12 hc fun m => (hD.2 m).1
  have gs : gi (nI (sIdx x d)) 12 := (n_gi (by omega)).mpr hs12
  unfold lKeep
  refine sm_b (s_take hc h (K := 4) rfl (by decide) (show ck 4 = 132 from rfl)) (fun _ σ2 _ ρ2 q => ?_) (fun _ _ _ _ q => q.go fun h => k_whole h (by omega))
  obtain ⟨q1, q2, ⟨ka, kp, kw, q3⟩, q4⟩ := q
  have r2 : (zR ρ2 909 0 0 0).2 = 0 := by rw [hc.g q2.2.1]
  have r1 : (zR ρ2 909 0 0 0).1 = qG x := by rw [hc.g q2.2.1]
  rw [if_pos r2, r1]
  -- the numbers
  obtain ⟨L0, z0, hm⟩ : ∃ L0 z0, qM x = 1 → SIx x d L z σb ρb (t + 1) σ2 ρ2 ∧ L ≤ L0 ∧ z ≤ z0 ∧ zI σ2 326 (qS x) 0 0 = nI L0 ∧ zI ρ2 785 (qG x) 0 0 = nI z0 ∧ L0 ≤ t + 1 ∧ z0 ≤ 2 * (t + 1) := by
    rcases m01 hc with m | m
    · exact ⟨0, 0, fun q => by omega⟩
    · have s2 : SIx x d L z σb ρb (t + 1) σ2 ρ2 := by rw [q3, q4]; exact (hD.2 m).2.1.av (Nat.le_succ t)
      obtain ⟨_, _, _, _, _, L', z', c6, c7, c8, c9, c10, c11⟩ := id s2
      exact ⟨L', z', fun _ => ⟨s2, c6, c7, c10, c11, c8, c9⟩⟩
  have hw : qM x = 1 → zI σ2 192 0 0 0 = 0 ∧ Scp x A (dW d A) σ2 ρ2 ∧ zI σ2 326 (qS x) 0 0 = nI L0 ∧ zI ρ2 785 (qG x) 0 0 = nI z0 ∧ L0 ≤ t + 1 ∧ z0 ≤ 2 * (t + 1) := fun m => by
    obtain ⟨g1, g2, g3, _, _, _, _, _, _, g10, _, _, _, g14, _⟩ := hD.2 m
    obtain ⟨m1, _, _, m4, m5, m6, m7⟩ := hm m
    exact ⟨m1.1, m1.scp g1 g3 (by rw [q3]; exact g10) (by rw [q4]; exact g14), m4, m5, m6, m7⟩
  rw [show fX4_wholeExpression σ2 = bq (fX4_wholeExpression σ2) fun _ z => some ((), z) from bq_id.symm]
  refine sm_b (x_whole hc q2 (by omega) hw) (fun _ σ4 s ρ4 g => ?_) (fun _ _ _ _ q => q.go fun h => h)
  obtain ⟨t', σ3, l, g1, g2, g3, g4, g5, g6⟩ := g
  rw [if_pos gs, lt_k, n_cl (show sIdx x d < 2147483648 by omega)]
  have hL : LFr x (sI ρ4 1799 (qG x) 0 (sIdx x d) s) := g3.2.1.I (wlG rfl)
  have hI : IP x 0 t' σ4 (sI ρ4 1799 (qG x) 0 (sIdx x d) s) := g3.lw hL rfl rfl rfl
  rcases m01 hc with m | m
  · rw [bq_e (sa_0 (by rw [hc.m hL, m]))]
    refine sm_ok ⟨t', by omega, hI, fun _ => ⟨?_, ?_⟩, fun q => by omega⟩
    · obtain ⟨e1, e2, e3⟩ := (hD.1 m).1
      refine M0.I ⟨?_, ?_, ?_⟩ (by decide)
      · rw [(g5.1 768 (qG x) (x_wYn rfl rfl) 0 0).1, q4]; exact e1
      · rw [(g5.1 781 (qG x) (x_wYn rfl rfl) 0 0).1, q4]; exact e2
      · rw [(g5.1 1795 (qG x) (x_wYn rfl rfl) 0 0).1, q4]; exact e3
    · rw [sI_c (by decide), (g5.1 911 0 (x_wYn rfl rfl) 0 0).1, q4]; exact (hD.1 m).2.1
  · obtain ⟨d1, d2, d3, d4, d5, d6, d7, d8, d9, d10, d11, d12, d13, d14, d15, d16, d17⟩ := hD.2 m
    obtain ⟨m1, m2, m3, m4, m5, m6, m7⟩ := hm m
    have wq := g6 m
    obtain ⟨w1, w2, w3, w4, w5, w6, w7, w8, w9, w10, w11, w12⟩ := id wq
    have s3 : SIx x d L z σb ρb t' σ3 ρ4 := m1.wh wq m2 m3
    rw [q3] at w11
    rw [q4] at w12
    have fC : ∀ c q, [258, 259, 260, 261, 262, 263, 205].contains c = false → [326, 1348, 1349].contains c = false → ∀ s i, zI σ3 c q s i = zI σ c q s i ∧ zJ σ3 c q s i = zJ σ c q s i ∧ zR σ3 c q s i = zR σ c q s i := fun c q e1 e2 s i => w11.av e1 e2 s i
    have fL : ∀ c q, [905, 907, 908].contains c = false → [785, 1810, 1811].contains c = false → ∀ s i, zI ρ4 c q s i = zI ρ c q s i ∧ zJ ρ4 c q s i = zJ ρ c q s i ∧ zR ρ4 c q s i = zR ρ c q s i := fun c q e1 e2 s i => w12.av e1 e2 s i
    have t449 : zI σ3 449 (qS x) (dN d) 0 = nI 1 := ((fC 449 _ rfl rfl _ _).1).trans d5
    have t201 : zI σ3 201 0 0 0 = nI (dW d A) := ((fC 201 _ rfl rfl _ _).1).trans (d17 (by omega)).1
    have hσ4 : σ4 = sI (sI σ3 1481 (qS x) (dN d) 0 (nI L0)) 1482 (qS x) (dN d) 0 (nI (L0 + l.length)) := by
      have := end_code (k := 0) s3.1 s3.2.1 s3.2.2.1 g2.1.2.1.1 w3 w4 (Or.inl ⟨t449, rfl⟩) (by decide)
      rw [g4] at this
      cases this; rfl
    obtain ⟨c1, c2, c3, c4⟩ := (m1.old d1).col d1.1 d3
    have s4 : SIx x d L z σb ρb t' σ4 (sI ρ4 1799 (qG x) 0 (dN d) s) := by
      rw [hσ4]
      exact ((s3.cI (wI_S rfl) (by decide)).cI (wI_S rfl) (by decide)).lI (wJ_G rfl) (by decide)
    rw [sIdx_1 m] at hL hI ⊢
    have h911 : zI (sI ρ4 1799 (qG x) 0 (dN d) s) 911 0 0 0 = nI 0 := by rw [sI_c (by decide), (fL 911 _ rfl rfl _ _).1]; exact d15
    obtain ⟨ρ5, u1, u2, u3, u4, u5, u6, u7, u8⟩ := s_all hc m d1 d3 s4 hI h911
    rw [bq_e u1]
    have y449 : zI σ4 449 (qS x) (dN d) 0 = nI 1 := by rw [hσ4, sI_c (by decide), sI_c (by decide)]; exact t449
    have y1 : (zR σ4 195 0 0 0).1 = qS x := by rw [s4.2.2.1]
    have y2 : (zR σ4 195 0 0 0).2 = dN d := by rw [s4.2.2.1]
    have yC : ∀ c q, [258, 259, 260, 261, 262, 263, 205].contains c = false → [326, 1348, 1349].contains c = false → c ≠ 1481 ∧ c ≠ 1482 → ∀ s i, zI σ4 c q s i = zI σ c q s i ∧ zJ σ4 c q s i = zJ σ c q s i := fun c q e1 e2 e3 s i => by
      obtain ⟨v1, v2, _⟩ := fC c q e1 e2 s i
      rw [hσ4]
      exact ⟨by rw [sI_c e3.2, sI_c e3.1]; exact v1, v2⟩
    have yL : ∀ c q, [905, 907, 908].contains c = false → [785, 1810, 1811].contains c = false → c ≠ 911 ∧ c ≠ 1937 ∧ c ≠ 1938 ∧ c ≠ 1799 → ∀ s i, zI ρ5 c q s i = zI ρ c q s i := fun c q e1 e2 e3 s i => by
      rw [u4 c q s i ⟨e3.1, e3.2.1, e3.2.2.1⟩, sI_c e3.2.2.2]
      exact (fL c q e1 e2 s i).1
    have hCg : Cg (qS x) σ4 L0 l := by rw [hσ4]; exact w5
    have hRg : Rg (qG x) ρ5 z0 l := by
      refine ⟨fun j hj => ?_, ?_⟩
      · rw [u4 1810 _ _ _ (by decide), u5 1811 _ _ _ (by decide), sI_c (by decide)]
        exact w6.1 j hj
      · rw [u4 1810 _ _ _ (by decide), sI_c (by decide)]
        exact w6.2
    obtain ⟨b1, b2, b3, b4, b5⟩ := id d1
    refine sm_ok ⟨t', by omega, u8, fun q => by omega, fun _ => ⟨end_eq s4.1 (by rw [y1, y2, y449]; decide) (by rw [y1, y2, y449]; decide), ((yC 202 _ rfl rfl (by decide) _ _).1).trans d8, dW d A, s4.1, ((yC 201 _ rfl rfl (by decide) _ _).1).trans (d17 (by omega)).1, u2, by have := c1.2.1; omega, fun w6' => ⟨b1, b3, L, z, L0 + l.length, z0 + l.length + 1, 1, A, 50, 0, 0, 0, 0, fun _ => 0, fun c => dCn d A c, fun _ => l, σb, ρb, b2, u7.2.2.1, u7.2.2.2.1, u7.2.2.2.2.1, by omega, w9, by omega, w10, ?_, ?_, fun c hcw => ⟨?_, (u3 c hcw).1⟩, b1.2.2.1 A d3, Or.inl d3, Or.inr (Nat.le_refl _), ?_, ?_, ?_, b4, b5⟩⟩⟩
    · rw [hσ4, sI_c (by decide), sI_c (by decide)]; exact w4
    · rw [u4 785 _ _ _ (by decide), sI_c (by decide)]; exact w7
    · rw [(yC 1224 _ rfl rfl (by decide) _ _).2]; exact (d17 (by omega)).2 c hcw
    · refine ⟨((yC 448 _ rfl rfl (by decide) _ _).2).trans d4, y449, ?_, ?_, fun q => by omega, fun q => by omega, fun q => by omega, fun q => by omega, fun q => by omega, fun q => by omega, fun c q => ?_⟩
      · rw [if_neg (by decide)]; exact ((yC 1476 _ rfl rfl (by decide) _ _).1).trans d6
      · rw [if_neg (by decide)]; exact ((yC 1476 _ rfl rfl (by decide) _ _).1).trans d7
      · have qc : c = 0 := by omega
        subst qc
        refine ⟨L0, ?_, ?_, Nat.le_refl _, hCg⟩
        · rw [hσ4, sI_c (by decide), zI_sI, if_pos ⟨rfl, rfl, rfl, rfl⟩]
        · rw [hσ4, zI_sI, if_pos ⟨rfl, rfl, rfl, rfl⟩]
    · refine ⟨(yL 1794 _ rfl rfl (by decide) _ _).trans d11, ?_, ?_, fun q => by omega, fun q => by omega, fun q => by omega, fun q => by omega, fun q => by omega, fun q => by omega, fun _ => ⟨z0, ?_, Nat.lt_succ_self _, hRg⟩, fun c q => by omega⟩
      · rw [if_neg (by decide)]; exact (yL 1797 _ rfl rfl (by decide) _ _).trans d12
      · rw [if_neg (by decide)]; exact (yL 1798 _ rfl rfl (by decide) _ _).trans d13
      · rw [u4 1799 _ _ _ (by decide), zI_sI, if_pos ⟨rfl, rfl, rfl, rfl⟩]; exact w1
    · exact ⟨by decide, c4, w6', by omega, by omega, fun _ => d3, fun q => by omega, fun _ => ⟨rfl, w8⟩, fun q => by omega, fun q => by omega, fun q => by omega, fun q => by omega, fun q => by omega, fun q => by omega⟩
end KE
