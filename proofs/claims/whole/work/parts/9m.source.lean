/-! ITEMS, both: a source, whole -/
section SO
variable {x : Cx} {t : Nat} {σ ρ : Zs} {d : Pd}
theorem SIx.av' {L z t2 u : Nat} {σb ρb : Zs} {a p : Int32} {w : Int64} {v : Int32} (h : SIx x d L z σb ρb t σ ρ) (ht : t ≤ t2) : SIx x d L z σb ρb t2 (avC σ u a p w) (sI ρ 905 0 0 0 v) := by
  obtain ⟨h1, h2, h3, h4, h5, L', z', h6, h7, h8, h9, h10, h11⟩ := h
  exact ⟨h1, h2, h3, h4.av, h5.I (wJ_0 rfl) (fun z => by cases z), L', z', h6, h7, by omega, by omega, h10, h11⟩
def SRE (x : Cx) (d : Pd) (L z : Nat) (σb ρb : Zs) (nm : Int64) (np w t : Nat) (σ ρ : Zs) : Prop := (qM x = 0 → M0 x ρ ∧ zI ρ 911 0 0 0 = nI 0) ∧ (qM x = 1 → SIx x d L z σb ρb t σ ρ ∧ NLw w σ ρ ∧ zJ σ 448 (qS x) (dN d) 0 = nm ∧ zI σ 449 (qS x) (dN d) 0 = 0 ∧ zI σ 1476 (qS x) (dN d) 0 = -1 ∧ zI σ 1476 (qS x) (dN d) 1 = -1 ∧ zI σ 202 0 0 0 = nI np ∧ zI ρ 1797 (qG x) 0 (dN d) = -1 ∧ zI ρ 1798 (qG x) 0 (dN d) = -1 ∧ zI ρ 1794 (qG x) 0 (dN d) = nI 0 ∧ ∃ v, v ≤ 1000 ∧ zI σ 455 (qS x) (dN d) 0 = nI v ∧ zI ρ 1799 (qG x) 0 (dN d) = nI v)
theorem sIdx_1 (m : qM x = 1) : sIdx x d = dN d := by unfold sIdx; rw [if_neg (by omega)]
theorem s_srct (hc : Cok x) {L z np w : Nat} {nm : Int64} {σb ρb : Zs} (hn : sIdx x d < 12) (h : IP x 0 t σ ρ) (hD : SRC x d L z σb ρb nm np w t σ ρ) : SM (Er x 0) (cTail σ) (lTail (nI (sIdx x d)) ρ) (fun _ σ' _ ρ' => ∃ t', t ≤ t' ∧ IP x 0 t' σ' ρ' ∧ SRE x d L z σb ρb nm np w t' σ' ρ') := by
  have gs : gi (nI (sIdx x d)) 12 := (n_gi (by omega)).mpr hn
  have r2 : (zR ρ 909 0 0 0).2 = 0 := by rw [hc.g h.2.1]
  have r1 : (zR ρ 909 0 0 0).1 = qG x := by rw [hc.g h.2.1]
  obtain ⟨ρ2, hρ2⟩ : ∃ y, y = sI (sI ρ 1794 (qG x) 0 (sIdx x d) 0) 1799 (qG x) 0 (sIdx x d) 0 := ⟨_, rfl⟩
  have h2 : IP x 0 t σ ρ2 := by rw [hρ2]; exact h.lw ((h.2.1.I (wlG rfl)).I (wlG rfl)) rfl rfl rfl
  have q2 : (zR ρ2 909 0 0 0).2 = 0 := by rw [hc.g h2.2.1]
  have q1 : (zR ρ2 909 0 0 0).1 = qG x := by rw [hc.g h2.2.1]
  have hl : lTail (nI (sIdx x d)) ρ = bq (fX14_is 1 ρ2) fun v34 ρ35 => if v34 = 0 then (some (.ok (), ρ35)) else (bw (fX14_take  ρ35) fun w42 ρ39 => if (zR ρ39 909 0 0 0).2 = 0 then bw (fX14_numberIn 0 ρ39) fun w49 ρ46 => if gi (nI (sIdx x d)) 12 then lt (sI ρ46 1799 ((zR ρ39 909 0 0 0).1) 0 (Int32.toNatClampNeg (nI (sIdx x d))) w49) fun ρ51 => some (.ok (), ρ51) else none else none) := by
    unfold lTail
    have p2 : ∀ p i, (zR (sI ρ 1794 p 0 i 0) 909 0 0 0).2 = 0 := fun _ _ => r2
    have p1 : ∀ p i, (zR (sI ρ 1794 p 0 i 0) 909 0 0 0).1 = qG x := fun _ _ => r1
    have es : sI (sI ρ 1794 (qG x) 0 (Int32.toNatClampNeg (nI (sIdx x d))) 0) 1799 (qG x) 0 (Int32.toNatClampNeg (nI (sIdx x d))) 0 = ρ2 := by rw [n_cl (show sIdx x d < 2147483648 by omega), hρ2]
    rw [if_pos r2, if_pos gs, lt_k, if_pos (p2 _ _), if_pos gs, lt_k, p1, r1, es]
  have hD2 : qM x = 1 → SIx x d L z σb ρb t σ ρ2 ∧ NLw w σ ρ2 ∧ zI ρ2 1797 (qG x) 0 (dN d) = -1 ∧ zI ρ2 1798 (qG x) 0 (dN d) = -1 ∧ zI ρ2 1794 (qG x) 0 (dN d) = nI 0 ∧ zI ρ2 1799 (qG x) 0 (dN d) = nI 0 := fun m => by
    obtain ⟨g1, g2, g3, g4, g5, g6, g7, g8, g9, g10, g11⟩ := hD.2 m
    rw [hρ2, sIdx_1 m]
    refine ⟨(g1.lI (wJ_G rfl) (by decide)).lI (wJ_G rfl) (by decide), g2, ?_, ?_, ?_, ?_⟩
    · rw [sI_c (by decide), sI_c (by decide)]; exact g10
    · rw [sI_c (by decide), sI_c (by decide)]; exact g11
    · rw [sI_c (by decide), zI_sI, if_pos ⟨rfl, rfl, rfl, rfl⟩]; rfl
    · rw [zI_sI, if_pos ⟨rfl, rfl, rfl, rfl⟩]; rfl
  have hM2 : qM x = 0 → M0 x ρ2 ∧ zI ρ2 911 0 0 0 = nI 0 := fun m => by rw [hρ2]; exact hD.1 m
  have hv := h.vk hc
  rw [hl, bq_e (show fX14_is 1 ρ2 = _ from h2.is hc 1 (by decide))]
  unfold cTail
  rw [h.c0]
  by_cases q : qk x t = 1
  · rw [if_pos (show ck (qk x t) = 129 by rw [q]; rfl), if_pos q, if10, range_num]
    obtain ⟨σ3, a1, a2, a3, ⟨ka, kp', kw, a4⟩, _⟩ := s_tk hc h2 (by omega)
    have u2 : (zR (sI ρ2 905 0 0 0 (nI (t + 1))) 909 0 0 0).2 = 0 := q2
    have u1 : (zR (sI ρ2 905 0 0 0 (nI (t + 1))) 909 0 0 0).1 = qG x := q1
    rw [bw_e a2, bq_e (a1 129 (by rw [q]; rfl)), if_pos u2, u1]
    have hm3 : qM x = 1 → zI σ3 192 0 0 0 = 0 ∧ zR σ3 195 0 0 0 = (qS x, dN d) := fun m => by rw [a4]; exact ⟨(hD2 m).1.1, (hD2 m).1.2.2.1⟩
    rw [show cNum 129 σ3 = bq (cNum 129 σ3) fun _ z => some ((), z) from bq_id.symm]
    refine sm_b (s_num hc a3 (wd := 129) (lo := 0) (n := dN d) rfl hm3) (fun _ σ4 v ρ4 g => ?_) (fun _ _ _ _ g => g.go fun h => h)
    obtain ⟨g1, rfl, g3, g4⟩ := g
    rw [if_pos gs, lt_k, n_cl (show sIdx x d < 2147483648 by omega)]
    refine sm_ok ⟨t + 1 + 1, by omega, g3.lw (g3.2.1.I (wlG rfl)) rfl rfl rfl, fun m => hM2 m, fun m => ?_⟩
    obtain ⟨e1, e2, e3, e4, e5, e6⟩ := hD2 m
    obtain ⟨g1', g2', g3', g4', g5', g6', g7', g8', g9', g10', g11'⟩ := hD.2 m
    obtain ⟨v, _, v2, rfl, k, p, u, rfl⟩ := g4 m
    rw [sIdx_1 m]
    have s3 : SIx x d L z σb ρb (t + 1) σ3 (sI ρ2 905 0 0 0 (nI (t + 1))) := by rw [a4]; exact e1.av (Nat.le_succ t)
    have s4 : SIx x d L z σb ρb (t + 1) (sI σ3 (rgC 129) (qS x) (dN d) 0 (nI v)) (sI ρ2 905 0 0 0 (nI (t + 1))) := s3.cI (wI_S rfl) (by decide)
    refine ⟨(s4.av (Nat.le_succ _)).lI (wJ_G rfl) (by decide), ?_, ?_, ?_, ?_, ?_, ?_, ?_, ?_, ?_, v, v2, ?_, ?_⟩
    · rw [a4]; exact e2
    · rw [a4]; exact g4'
    · rw [a4]; exact g5'
    · rw [a4]; exact g6'
    · rw [a4]; exact g7'
    · rw [a4]; exact g9'
    · rw [sI_c (by decide)]; exact e3
    · rw [sI_c (by decide)]; exact e4
    · rw [sI_c (by decide)]; exact e5
    · show zI (sI σ3 455 (qS x) (dN d) 0 (nI v)) 455 (qS x) (dN d) 0 = nI v
      rw [zI_sI, if_pos ⟨rfl, rfl, rfl, rfl⟩]
    · rw [zI_sI, if_pos ⟨rfl, rfl, rfl, rfl⟩]
  · rw [if_neg (show ¬ ck (qk x t) = 129 from ck_ne (j := 1) hv.1 rfl q), if_neg q, if00]
    refine sm_ok ⟨t, Nat.le_refl _, h2, hM2, fun m => ?_⟩
    obtain ⟨e1, e2, e3, e4, e5, e6⟩ := hD2 m
    obtain ⟨g1', g2', g3', g4', g5', g6', g7', g8', g9', g10', g11'⟩ := hD.2 m
    exact ⟨e1, e2, g4', g5', g6', g7', g9', e3, e4, e5, 0, by omega, g8', e6⟩
theorem OLD.nms {L z : Nat} (h : OLD x d L z σ ρ) (hN : dN d ≤ 12) : NMS x d σ ρ := ⟨h.1, hN, h.2.2.1, fun s hs => ⟨(h.2.2.2.2.1 s hs).1, (h.2.2.2.2.2.2.1 s hs).1⟩⟩
/-- the class's work begins -/
theorem s_work (h : IP x 0 t σ ρ) {K : Int32} {p : Int32} : ∃ σ', fX3_startWork K p σ = some ((), σ') ∧ St (qS x) 0 (qC x) σ' ∧ MF σ σ' ∧ (zI σ 192 0 0 0 = 0 → σ' = sI (sI σ 449 ((zR σ 195 0 0 0).1) ((zR σ 195 0 0 0).2) 0 K) 203 0 0 0 p) ∧ (zI σ 192 0 0 0 ≠ 0 → σ' = σ) := by
  obtain ⟨⟨⟩, σ', e1, k1⟩ := wp_ex (k_startWork h.1 (x := K) (y := p))
  refine ⟨σ', e1, k1, mf_X3_startWork MF.rf _ _ e1, fun q => ?_, fun q => ?_⟩
  · unfold fX3_startWork at e1
    rw [if_pos q, lt_k, lt_k] at e1
    cases e1; rfl
  · unfold fX3_startWork at e1
    rw [if_neg q] at e1
    cases e1; rfl
noncomputable def cSrc (z : Zs) : Option (Unit × Zs) := bq (fX4_takeNames 1 z) fun _ σ18 => if (zI σ18 260 0 0 0) = 129 then (bq (fX4_takeRange 129 σ18) fun v25 σ26 => bq (fX3_endStream  σ26) fun v29 σ30 => some ((), σ30)) else (bq (fX3_endStream  σ18) fun v21 σ22 => some ((), σ22))
theorem cSrc_e {z : Zs} : cSrc z = bq (bq (fX4_takeNames 1 z) fun _ z => cTail z) fun _ z => bq (fX3_endStream z) fun _ z => some ((), z) := by
  unfold cSrc
  rw [bq_as]
  refine congrArg _ (funext fun _ => funext fun z => ?_)
  unfold cTail
  rw [bq_if, bq_s]
theorem kt_tail {S : Nat} {σ0 z : Zs} (h : St S 0 σ0 z) : Wp1 (cTail z) fun _ => St S 0 σ0 := by
  unfold cTail
  exact wp_ite (k_takeRange h) h
theorem x_source (hc : Cok x) (h : ITm x d t σ ρ) (hK : qk x t = 0) : SM (Er0 x) (fX4_source σ) (fX14_item ρ) (fun _ σ' _ ρ' => ∃ t' d', t + 2 ≤ t' ∧ ITm x d' t' σ' ρ') := by
  obtain ⟨σa, a1, a2, a3, a4⟩ := s_start hc h
  obtain ⟨i1, i2, i3, i4, i5, i6, i7⟩ := id h
  have hIa : IP x 0 t σa ρ := ⟨a2, i2, i3.mf a3, i4, i5⟩
  obtain ⟨σ1, b1, b2, b3, b4, b5⟩ := s_work hIa (K := 0) (p := nI (qp x t))
  have hI1 : IP x 0 t σ1 ρ := hIa.mf b2 b3
  have hcs : fX4_source σ = bq (fX4_take (ck 0) σ1) fun _ z => bq (fX4_takeName 0 z) fun _ z => cSrc z := by
    unfold fX4_source cSrc
    rw [show zI σ 261 0 0 0 = nI (qp x t) from i3.2.2.2.2.1, bq_e a1, hIa.c1, bq_e b1]
    rfl
  rw [hcs]
  have hkR : ∀ σ0 z, St (qS x) 0 σ0 z → Wp1 (cSrc z) fun _ => St0 (qS x) σ0 := fun σ0 z h => by
    rw [cSrc_e]
    exact kb (kb (k_takeNames h) fun _ _ h => kt_tail h) fun _ _ h => kb0 (k_endStream h) fun _ _ h => h
  refine s_head (d := d) hc hK (Or.inl rfl) hI1 i6 (fun m => ?_) hkR (fun σ' ρ' n1 n2 n3 n4 => ?_)
  · obtain ⟨g1, gG, L, z, g2, g3, g4, g5, g6⟩ := i7 m
    refine ⟨⟨g6.2.2.1, gG.1.1⟩, ?_⟩
    rcases a4 m with ⟨q1, q2⟩ | ⟨q1, q2⟩
    · have e0 : zI σa 192 0 0 0 = 0 := by rw [q2]; exact g1
      refine Or.inl ⟨q1, ?_, ?_, ?_⟩
      · rw [b4 e0, q2]; exact g1
      · rw [b4 e0, q2]; rfl
      · have := g6.nms gG.1.1
        refine ⟨?_, this.2.1, this.2.2.1, fun s hs => ⟨?_, (this.2.2.2 s hs).2⟩⟩
        · rw [b4 e0, q2]; exact this.1
        · rw [b4 e0, q2]; exact (this.2.2.2 s hs).1
    · have e0 : zI σa 192 0 0 0 ≠ 0 := by
        rcases q2 with ⟨e, _⟩ | ⟨_, _, _, _, e⟩
        · exact absurd e (show ¬ (4 : Int32) = 1 by decide)
        · exact e
      exact Or.inr ⟨q1, by rw [b5 e0]; exact q2⟩
  · -- behind the name
    have hsi : sIdx x d < 12 := by
      rcases m01 hc with m | m
      · unfold sIdx; rw [if_pos m]; decide
      · rw [sIdx_1 m]; exact (n4 m).1
    have gs : gi (nI (sIdx x d)) 12 := (n_gi (by omega)).mpr hsi
    have r2 : (zR ρ' 909 0 0 0).2 = 0 := by rw [hc.g n2.2.1]
    have r1 : (zR ρ' 909 0 0 0).1 = qG x := by rw [hc.g n2.2.1]
    obtain ⟨ρ2, hρ2⟩ : ∃ y, y = sI (sI ρ' 1797 (qG x) 0 (sIdx x d) (-1)) 1798 (qG x) 0 (sIdx x d) (-1) := ⟨_, rfl⟩
    have h2 : IP x 0 (t + 1 + 1) σ' ρ2 := by rw [hρ2]; exact n2.lw ((n2.2.1.I (wlG rfl)).I (wlG rfl)) rfl rfl rfl
    have hl : fX14_item_157 (nI 0) (qw x (t + 1)) (nI (qp x (t + 1))) (nI (sIdx x d)) ρ' = bw (fX14_source (nI (sIdx x d)) ρ2) fun _ ρ95 => if (6 : Int32) < zI ρ95 911 0 0 0 then fX14_item_221 (qw x (t + 1)) (nI (qp x (t + 1))) (nI (sIdx x d)) 0 ρ95 else fX14_item_221 (qw x (t + 1)) (nI (qp x (t + 1))) (nI (sIdx x d)) 1 ρ95 := by
      unfold fX14_item_157
      have p2 : ∀ p i, (zR (sI ρ' 1797 p 0 i (-1)) 909 0 0 0).2 = 0 := fun _ _ => r2
      have p1 : ∀ p i, (zR (sI ρ' 1797 p 0 i (-1)) 909 0 0 0).1 = qG x := fun _ _ => r1
      rw [if_pos r2, if_pos gs, lt_k, if_pos (p2 _ _), if_pos gs, lt_k, p1, r1, n_cl (show sIdx x d < 2147483648 by omega), ← hρ2, if_pos (show (nI 0 : Int32) = 0 from rfl)]
    -- the base
    obtain ⟨L, z, σb, ρb, hB⟩ : ∃ L z σb ρb, (qM x = 1 → GoodD d ∧ OLD x d L z σb ρb) ∧ SRC x d L z σb ρb (qw x (t + 1)) (qp x (t + 1)) 0 (t + 1 + 1 + 1) σ' ρ2 := by
      rcases m01 hc with m | m
      · refine ⟨0, 0, σ, ρ, fun q => by omega, fun _ => ?_, fun q => by omega⟩
        rw [hρ2, n3]
        exact ⟨i6 m, rfl⟩
      · obtain ⟨g1, gG, L, z, g2, g3, g4, g5, g6⟩ := i7 m
        refine ⟨L, z, σ, ρ, fun _ => ⟨gG, g6⟩, fun q => by omega, fun _ => ?_⟩
        obtain ⟨q1, q2, ka, kp', kw, ka2, kp2, kw2, rfl⟩ := n4 m
        have hfr := a4 m
        rcases hfr with ⟨_, hσa⟩ | ⟨q3, _⟩
        · have e0 : zI σa 192 0 0 0 = 0 := by rw [hσa]; exact g1
          have hσ1 : σ1 = sI (sI (ssC σ (qS x) (dN d)) 449 (qS x) (dN d) 0 0) 203 0 0 0 (nI (qp x t)) := by rw [b4 e0, hσa]; rfl
          rw [hρ2, n3, sIdx_1 m, hσ1]
          have s1 : SIx x d L z σ ρ t (sI (sI (ssC σ (qS x) (dN d)) 449 (qS x) (dN d) 0 0) 203 0 0 0 (nI (qp x t))) ρ := ((SIx.start g1 g2 g3 g4 g5).cI (wI_S rfl) (by decide)).cI (wI_0 rfl) (by decide)
          refine ⟨?_, ⟨rfl, rfl, by omega, fun j hj => absurd hj (Nat.not_lt_zero _), fun i j hi => absurd hi (Nat.not_lt_zero _)⟩, by omega, ?_, ?_, ?_, ?_, ?_, ?_, ?_, ?_⟩
          · have s2 := s1.av (a := ka) (p := kp') (w := kw) (v := nI (t + 1)) (Nat.le_succ t)
            have s3 := ((s2.cJ (c := 448) (q := qS x) (s := dN d) (i := 0) (v := qw x (t + 1)) (wI_S rfl) (by decide)).cI (c := 202) (q := 0) (s := 0) (i := 0) (v := nI (qp x (t + 1))) (wI_0 rfl) (by decide)).av (a := ka2) (p := kp2) (w := kw2) (v := nI (t + 1 + 1)) (show t.succ ≤ t + 1 + 1 + 1 by omega)
            exact ((s3.lI (wJ_0 rfl) (by decide)).lI (wJ_G rfl) (by decide)).lI (wJ_G rfl) (by decide)
          · show zJ (sJ _ 448 (qS x) (dN d) 0 (qw x (t + 1))) 448 (qS x) (dN d) 0 = _
            rw [zJ_sJ, if_pos ⟨rfl, rfl, rfl, rfl⟩]
          · show zI (sI (ssC σ (qS x) (dN d)) 449 (qS x) (dN d) 0 0) 449 (qS x) (dN d) 0 = 0
            rw [zI_sI, if_pos ⟨rfl, rfl, rfl, rfl⟩]
          · show zI (sI (sI (sI (sR (sI σ 197 0 0 0 0) 195 0 0 0 (qS x, dN d)) 449 (qS x) (dN d) 0 0) 1476 (qS x) (dN d) 0 (-1)) 1476 (qS x) (dN d) 1 (-1)) 1476 (qS x) (dN d) 0 = -1
            rw [zI_sI, if_neg (fun z => absurd z.2.2.2 (by decide)), zI_sI, if_pos ⟨rfl, rfl, rfl, rfl⟩]
          · show zI (sI _ 1476 (qS x) (dN d) 1 (-1)) 1476 (qS x) (dN d) 1 = -1
            rw [zI_sI, if_pos ⟨rfl, rfl, rfl, rfl⟩]
          · show zI (sI _ 455 (qS x) (dN d) 0 0) 455 (qS x) (dN d) 0 = 0
            rw [zI_sI, if_pos ⟨rfl, rfl, rfl, rfl⟩]
          · rfl
          · rw [sI_c (by decide), zI_sI, if_pos ⟨rfl, rfl, rfl, rfl⟩]
          · rw [zI_sI, if_pos ⟨rfl, rfl, rfl, rfl⟩]
        · exact absurd (n4 m).1 q3
    obtain ⟨hG, hD⟩ := hB
    rw [hl, cSrc_e]
    have hFU : FU = 19999 + 1 := rfl
    -- names, delay
    have hnames : SM (Er x 0) (bq (fX4_takeNames 1 σ') fun _ z => cTail z) (fX14_source (nI (sIdx x d)) ρ2) (fun _ σ' _ ρ' => ∃ t' w, t + 2 ≤ t' ∧ 1 ≤ w ∧ IP x 0 t' σ' ρ' ∧ SRE x d L z σb ρb (qw x (t + 1)) (qp x (t + 1)) w t' σ' ρ') := by
      unfold fX4_takeNames fX14_source
      rw [bq_as]
      have kl : ∀ σ0 z, St (qS x) 0 σ0 z → Wp1 (bq (fX4_takeNames_8 1 FU 0 z) fun _ z => cTail z) fun _ => St (qS x) 0 σ0 := fun σ0 z h => by
        exact kb (kl_names 1500 0 FU (by omega) (by rw [hFU]; omega) _ _ h) fun _ _ h => kt_tail h
      refine sm_b (s_take hc h2 (K := 100) rfl (by decide) (show ck 100 = 40 from rfl)) (fun _ σ2 _ ρ3 g => ?_) (fun _ _ _ _ g => g.go fun h => kl _ _ h)
      obtain ⟨g1, g2, ⟨ka, kp', kw, rfl⟩, rfl⟩ := g
      have hD2 : SRC x d L z σb ρb (qw x (t + 1)) (qp x (t + 1)) 0 (t + 1 + 1 + 1) (avC σ' (t + 1 + 1) ka kp' kw) (sI ρ2 905 0 0 0 (nI (t + 1 + 1 + 1))) := by
        refine ⟨fun m => hD.1 m, fun m => ?_⟩
        obtain ⟨e1, e2, e3, e4⟩ := hD.2 m
        exact ⟨e1.av' (Nat.le_refl _), e2, by omega, e4⟩
      have hcn : ∀ z, fX4_takeNames_8 1 FU 0 z = bq (fX4_takeName 1 z) fun _ z => fX4_takeNames_8 1 19999 (nI 1) z := fun z => by
        rw [hFU, fX4_takeNames_8, i_1500, if_neg (show ¬ nI 1500 ≤ (0 : Int32) by decide), if_pos rfl]
        unfold fX4_takeComma
        rw [if_pos (by decide), bq_s]
        rfl
      rw [hcn, bq_as]
      refine s_srcc hc g2 hD2 (fun e σ ρ he => he.go fun h => ?_) (fun σ3 ρ3 q1 q2 q3 => ?_)
      · exact kb (kl_names 1499 1 19999 (by omega) (by omega) _ _ h) fun _ _ h => kt_tail h
      · have ht3 := q2.t5 hc
        refine s_srcl hc (t0 := t + 1 + 1) (C := cTail) (fun _ _ h => kt_tail h) (fun t4 w σ4 ρ4 w0 w1 g3 g4 => ?_) (1501 - (t + 1 + 1 + 1 + 1)) (t + 1 + 1 + 1 + 1) 1 1 19999 FU σ3 ρ3 (by omega) (by omega) (by omega) (by omega) (by omega) (by omega) (by rw [hFU]; omega) q2 q3
        refine sm_m (s_srct hc hsi g3 g4) ?_
        rintro _ σ5 _ ρ5 ⟨t', k1, k2, k3⟩
        exact ⟨t', w, by omega, w1, k2, k3⟩
    refine sm_b hnames (fun _ σ4 _ ρ4 g => ?_) (fun _ _ _ _ g => g.go0 fun h => kb0 (k_endStream h) fun _ _ h => h)
    obtain ⟨t', w, g1, g2, g3, g4⟩ := g
    refine sm_m (s_fin' (d := d) (w := w) hc g3 (fun m => g4.1 m) (fun m => ?_)) (fun _ _ _ _ q => ?_)
    · obtain ⟨e1, e2, e3, e4, e5, e6, e7, e8, e9, e10, v, v1, v2, v3⟩ := g4.2 m
      obtain ⟨c1, c2, c3, c4, c5, L', z', c6, c7, c8, c9, c10, c11⟩ := e1
      have s1 : (zR σ4 195 0 0 0).1 = qS x := by rw [c3]
      have s2 : (zR σ4 195 0 0 0).2 = dN d := by rw [c3]
      refine ⟨end_eq c1 (by rw [s1, s2, e4]; decide) (by rw [s1, s2, e4]; decide), e7, c1, e2.1, e2.2.1, by have := e2.2.2.1; omega, fun w6 => ⟨(hG m).1, (n4 m).1, L, z, L', z', 0, 50, 50, v, 0, 0, 0, fun _ => 0, fun c => zJ σ4 1224 0 0 c, fun _ => [], σb, ρb, (hG m).2, c3, c4, c5, c6, c8, c7, c9, c10, c11, fun c hcw => ⟨rfl, (e2.2.2.2.1 c hcw).symm⟩, e2.2.2.2.2, Or.inr (Nat.le_refl _), Or.inr (Nat.le_refl _), ?_, ?_, ?_, ?_, (n4 m).2.1⟩⟩
      · exact ⟨e3, e4, by rw [if_pos rfl]; exact e5, by rw [if_neg (by omega)]; exact e6, fun q => by omega, fun q => by omega, fun _ => v2, fun q => by omega, fun q => by omega, fun q => by omega, fun c q => by omega⟩
      · exact ⟨e10, by rw [if_pos rfl]; exact e8, by rw [if_neg (by omega)]; exact e9, fun q => by omega, fun q => by omega, fun _ => v3, fun q => by omega, fun q => by omega, fun q => by omega, fun q => by omega, fun c q => by omega⟩
      · exact ⟨by omega, by omega, w6, v1, by omega, fun q => absurd rfl q, fun q => by omega, fun q => by omega, fun q => by omega, fun q => by omega, fun q => by omega, fun q => by omega, fun q => by omega, fun q => by omega⟩
      · exact (hc.1.2.2.1 (t + 1) (by have := n2.2.2.1.1; omega)).2.2.2.2.2.2.2.2.1 n1
    · obtain ⟨d', q⟩ := q
      exact ⟨t', d', g1, q⟩
end SO
