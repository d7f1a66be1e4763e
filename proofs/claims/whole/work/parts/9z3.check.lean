/-! ITEMS, both: a check, whole -/
section CN
variable {x : Cx} {t : Nat} {σ ρ : Zs} {d : Pd}
theorem CIx.av {L z t2 u : Nat} {σb ρb : Zs} {a p : Int32} {w : Int64} {v : Int32} (h : CIx x d L z σb ρb t σ ρ) (ht : t ≤ t2) : CIx x d L z σb ρb t2 (avC σ u a p w) (sI ρ 905 0 0 0 v) := by
  obtain ⟨h1, h2, h3, h4, h5, L', z', h6, h7, h8, h9, h10, h11⟩ := h
  exact ⟨h1, h2, h3, h4.av, h5.I (wJ_0 rfl) (fun z => by cases z), L', z', h6, h7, by omega, by omega, h10, h11⟩
theorem CIx.old {L z : Nat} {σb ρb : Zs} (h : CIx x d L z σb ρb t σ ρ) (hB : OLD x d L z σb ρb) : OLD x d L z σ ρ := hB.fr h.2.2.2.1 h.2.2.2.2.1 (Nat.le_refl _) (Nat.le_refl _)
/-- behind its input -/
def CW (x : Cx) (d : Pd) (L z : Nat) (σb ρb : Zs) (A t : Nat) (σ ρ : Zs) : Prop := (qM x = 0 → M0 x ρ ∧ A = 0) ∧ (qM x = 1 → GoodD d ∧ OLD x d L z σb ρb ∧ dM d < 8 ∧ A < dN d ∧ CIx x d L z σb ρb t σ ρ ∧ zR σ 198 0 0 0 = (qS x, A) ∧ zI σ 0 (qS x) (dM d) 0 = nI A)
theorem x_chk3 (hc : Cok x) {L z A : Nat} {σb ρb : Zs} (h : IP x 1 t σ ρ) (hD : CW x d L z σb ρb A t σ ρ) : SM (Er0 x) (cC3 σ) (lC3 (nI A) ρ) (fun _ σ' _ ρ' => ∃ t' d', t ≤ t' ∧ ITm x d' t' σ' ρ') := by
  unfold cC3 lC3
  refine sm_b (s_take hc h (K := 103) rfl (by decide) (show ck 103 = 58 from rfl)) (fun _ σ2 _ ρ2 q => ?_) (fun _ _ _ _ g => g.go0 fun h => kb (k_whole h (by omega)) fun _ _ h => kb (k_take h) fun _ _ h => k_cC5 h)
  obtain ⟨q1, q2, ⟨ka, kp, kw, q3⟩, q4⟩ := q
  rw [lt_k]
  obtain ⟨ρ3, hρ3⟩ : ∃ y, y = sI ρ2 910 0 0 0 (nI A) := ⟨_, rfl⟩
  have hI3 : IP x 1 (t + 1) σ2 ρ3 := by rw [hρ3]; exact q2.lw (q2.2.1.I (wl0 rfl)) rfl rfl rfl
  rw [← hρ3]
  obtain ⟨L0, z0, hm⟩ : ∃ L0 z0, qM x = 1 → CIx x d L z σb ρb (t + 1) σ2 ρ3 ∧ L ≤ L0 ∧ z ≤ z0 ∧ zI σ2 326 (qS x) 0 0 = nI L0 ∧ zI ρ3 785 (qG x) 0 0 = nI z0 ∧ L0 ≤ t + 1 ∧ z0 ≤ 2 * (t + 1) := by
    rcases m01 hc with m | m
    · exact ⟨0, 0, fun q => by omega⟩
    · have s2 : CIx x d L z σb ρb (t + 1) σ2 ρ2 := by rw [q3, q4]; exact (hD.2 m).2.2.2.2.1.av (Nat.le_succ t)
      obtain ⟨g1, g2, g3, g4, g5, L', z', c6, c7, c8, c9, c10, c11⟩ := s2
      have e785 : zI ρ3 785 (qG x) 0 0 = nI z' := by rw [hρ3, sI_c (by decide)]; exact c11
      exact ⟨L', z', fun _ => ⟨⟨g1, g2, g3, g4, by rw [hρ3]; exact g5.I (wJ_0 rfl) (fun z => by cases z), L', z', c6, c7, c8, c9, c10, e785⟩, c6, c7, c10, e785, c8, c9⟩⟩
  have hw : qM x = 1 → zI σ2 192 0 0 0 = 0 ∧ Scp x A (dW d A) σ2 ρ3 ∧ zI σ2 326 (qS x) 0 0 = nI L0 ∧ zI ρ3 785 (qG x) 0 0 = nI z0 ∧ L0 ≤ t + 1 ∧ z0 ≤ 2 * (t + 1) := fun m => by
    obtain ⟨g1, g2, g3, g4, g5, g6, g7⟩ := hD.2 m
    obtain ⟨m1, _, _, m4, m5, m6, m7⟩ := hm m
    obtain ⟨c1, _⟩ := (m1.old g2).col g1 g4
    exact ⟨m1.1, ⟨c1.1, c1.2.1, by rw [q3]; exact g6, by rw [hρ3, zI_sI, if_pos ⟨rfl, rfl, rfl, rfl⟩], c1.2.2.1, c1.2.2.2.1, c1.2.2.2.2⟩, m4, m5, m6, m7⟩
  refine sm_b (x_whole hc hI3 (by omega) hw) (fun _ σ4 s ρ4 g => ?_) (fun _ _ _ _ q => q.go0 fun h => kb (k_take h) fun _ _ h => k_cC5 h)
  obtain ⟨t', σ3, l, g1, g2, g3, g4, g5, g6⟩ := g
  refine sm_b (s_take hc g3 (K := 18) rfl (by decide) (show ck 18 = 146 from rfl)) (fun _ σ5 _ ρ5 q => ?_) (fun _ _ _ _ g => g.go0 fun h => k_cC5 h)
  obtain ⟨u1, u2, ⟨ka2, kp2, kw2, u3⟩, u4⟩ := q
  have hv := u2.vk hc
  obtain ⟨kk, hkk⟩ : ∃ k, k = qk x (t' + 1) := ⟨_, rfl⟩
  rw [if_pos (u2.g5 hc), u2.k9 hc, ← hkk, bq_e (show fX14_isIn (nI kk).toInt64 19 21 ρ5 = _ from in_R (lo := 19) (hi := 21) (by omega) (by decide) (by decide))]
  by_cases qq : 19 ≤ kk ∧ kk ≤ 21
  · rw [if_pos qq, if10, if_pos (u2.g5 hc), cC5_e (by rw [u2.c0, ← hkk]) qq.1 qq.2]
    obtain ⟨σ6, a1, a2, a3, ⟨kb', kp', kw', a4⟩, _⟩ := s_tk hc u2 (by omega)
    rw [bq_e (a1 (ck kk) (by rw [hkk])), bw_e a2]
    obtain ⟨⟨⟩, σ7, e1, k1, k2⟩ := wp_ex (wp_an (k_endCheck a3.1 (x := ck kk)) (mf_X3_endCheck MF.rf))
    rw [bq_e e1]
    have hp := a3.2.2.1.mf k2
    rcases m01 hc with m | m
    · rw [hc.m a3.2.1, m, if_pos (by rfl)]
      refine sm_ok ⟨t' + 1 + 1, d, by omega, k1, a3.2.1, hp, a3.2.2.2.1, a3.2.2.2.2, fun _ => ?_, fun q => by omega⟩
      obtain ⟨m1, m2, m3⟩ := (hD.1 m).1
      have fr : ∀ c, c ≠ 905 ∧ c ≠ 910 → [905, 907, 908].contains c = false → [785, 1810, 1811].contains c = false → zI (sI ρ5 905 0 0 0 (nI (t' + 1 + 1))) c (qG x) 0 0 = zI ρ c (qG x) 0 0 := fun c hn n1 n2 => by
        rw [sI_c hn.1, u4, sI_c hn.1, (g5.1 c (qG x) (x_wYn n1 n2) 0 0).1, hρ3, sI_c hn.2, q4, sI_c hn.1]
      exact ⟨(fr 768 (by decide) rfl rfl).trans m1, (fr 781 (by decide) rfl rfl).trans m2, (fr 1795 (by decide) rfl rfl).trans m3⟩
    · obtain ⟨gG, gO, gM8, gA, gC, g198, g0⟩ := hD.2 m
      obtain ⟨m1, m2, m3, m4, m5, m6, m7⟩ := hm m
      obtain ⟨w1, w2, w3, w4, w5, w6, w7, w8, w9, w10, w11, w12⟩ := g6 m
      have f197 : zI σ3 197 0 0 0 = 1 := ((w11.1 197 0 (wW_n rfl rfl) 0 0).1).trans m1.2.1
      have f196 : zR σ3 196 0 0 0 = (qS x, dM d) := ((w11.1 196 0 (wW_n rfl rfl) 0 0).2.2).trans m1.2.2.1
      have hσ4 : σ4 = sI (sI σ3 2 (qS x) (dM d) 0 (nI L0)) 3 (qS x) (dM d) 0 (nI (L0 + l.length)) := by
        have := end_chk w2 f197 f196 g2.1.2.1.1 w3 w4
        rw [g4] at this; cases this; rfl
      have iC3 : IFC (qS x) (dN d) (dM d) L σb σ3 := m1.2.2.2.1.tr (w11.ifc.dn m2)
      have iC4 : IFC (qS x) (dN d) (dM d) L σb σ4 := by
        rw [hσ4]
        exact (iC3.I (wI_K rfl) (fun z => by cases z)).I (wI_K rfl) (fun z => by cases z)
      have iC6 : IFC (qS x) (dN d) (dM d) L σb σ6 := by rw [a4, u3]; exact iC4.av.av
      obtain ⟨σm, hσm⟩ : ∃ y, y = sI σ6 1 (qS x) (dM d) 0 (nI (128 + kk)) := ⟨_, rfl⟩
      have iCm : IFC (qS x) (dN d) (dM d) L σb σm := by rw [hσm]; exact iC6.I (wI_K rfl) (fun z => by cases z)
      have iL4 : IFL (qG x) (dN d) z ρb ρ4 := m1.2.2.2.2.1.tr (w12.ifl.dn m3)
      obtain ⟨ρm, hρm⟩ : ∃ y, y = sI ρ5 905 0 0 0 (nI (t' + 1 + 1)) := ⟨_, rfl⟩
      have iLm : IFL (qG x) (dN d) z ρb ρm := by rw [hρm, u4]; exact (iL4.I (wJ_0 rfl) (fun z => by cases z)).I (wJ_0 rfl) (fun z => by cases z)
      have hO : OLD x d (L0 + l.length) (z0 + l.length + 1) σm ρm := gO.fr iCm iLm (by omega) (by omega)
      obtain ⟨o1, o2, o3, o4, o5, o6, o7, o8⟩ := id hO
      have hN := gG.1.1
      have x192 : zI σ6 192 0 0 0 = 0 := by rw [a4, u3, hσ4]; exact w2
      have x196 : zR σ6 196 0 0 0 = (qS x, dM d) := by rw [a4, u3, hσ4]; exact f196
      have x323 : zI σ6 323 (qS x) 0 0 = nI (dM d) := by
        have := o2
        rw [hσm, sI_c (by decide)] at this; exact this
      have hck : ck kk = nI (128 + kk) := by unfold ck; rw [if_pos (by omega)]
      have hσ7 : σ7 = sI σm 323 (qS x) 0 0 (nI (dM d + 1)) := by
        have := end_ck (f := 128 + kk) x192 x196 a3.1.2.1.1 x323
        rw [hck, this] at e1
        cases e1; rw [hσm]
      have x326 : zI σ7 326 (qS x) 0 0 = nI (L0 + l.length) := by
        rw [hσ7, sI_c (by decide), hσm, sI_c (by decide), a4, u3, hσ4]
        exact w4
      have x785 : zI ρm 785 (qG x) 0 0 = nI (z0 + l.length + 1) := by
        rw [hρm, sI_c (by decide), u4, sI_c (by decide)]; exact w7
      have hLm : LFr x ρm := by rw [hρm]; exact a3.2.1
      rw [← hρm] at a3 hp ⊢
      rw [u2.k9 hc, ← hkk, lc_end (x := x) (w := nI A) (s := s) (f := nI kk) (by rw [hc.m hLm, m]) (hc.g hLm) o4 gM8]
      obtain ⟨ρ8, hρ8⟩ : ∃ y, y = sI (sI (sI (sI ρm 1806 (qG x) 0 (dM d) (nI A)) 1807 (qG x) 0 (dM d) s) 1808 (qG x) 0 (dM d) (nI kk)) 781 (qG x) 0 0 (nI (dM d + 1)) := ⟨_, rfl⟩
      rw [← hρ8]
      have hL8 : LFr x ρ8 := by rw [hρ8]; exact (((hLm.I (wlG rfl)).I (wlG rfl)).I (wlG rfl)).I (wlG rfl)
      have hp8 : PSt x (t' + 1 + 1) σ7 ρ8 := by rw [hρ8]; exact hp
      refine sm_ok ⟨t' + 1 + 1, dChk d A kk l, by omega, k1, hL8, hp8, by rw [hρ8]; exact a3.2.2.2.1, by rw [hρ8]; exact a3.2.2.2.2, fun q => by omega, fun _ => ⟨by rw [hσ7]; show zI σm 192 0 0 0 = 0; rw [hσm]; exact x192, gG.chk gM8 gA qq w8, L0 + l.length, z0 + l.length + 1, by omega, by omega, x326, by rw [hρ8]; exact x785, ?_, ?_, ?_, ?_, fun s hs => ?_, fun c hcc => ?_, fun s hs => ?_, fun c hcc => ?_⟩⟩
      · rw [hσ7]; exact o1
      · rw [hσ7, zI_sI, if_pos ⟨rfl, rfl, rfl, rfl⟩]; rfl
      · rw [hρ8]; exact o3
      · rw [hρ8, zI_sI, if_pos ⟨rfl, rfl, rfl, rfl⟩]; rfl
      · rw [hσ7]; exact (o5 s hs).chk (Nat.lt_of_lt_of_le hs hN)
      · by_cases qc : c = dM d
        · unfold PCc
          rw [dc_CS, dc_CF, dc_CO, if_pos qc, if_pos qc, if_pos qc, qc, hσ7]
          refine ⟨?_, ?_, L0, ?_, ?_, Nat.le_refl _, ?_⟩
          · rw [sI_c (by decide), hσm, sI_c (by decide), a4, u3, hσ4]
            show zI σ3 0 (qS x) (dM d) 0 = nI A
            rw [(w11.1 0 (qS x) (wW_n rfl rfl) _ _).1, q3]; exact g0
          · rw [sI_c (by decide), hσm, zI_sI, if_pos ⟨rfl, rfl, rfl, rfl⟩]
          · rw [sI_c (by decide), hσm, sI_c (by decide), a4, u3, hσ4]
            show zI (sI (sI σ3 2 (qS x) (dM d) 0 (nI L0)) 3 (qS x) (dM d) 0 (nI (L0 + l.length))) 2 (qS x) (dM d) 0 = _
            rw [sI_c (by decide), zI_sI, if_pos ⟨rfl, rfl, rfl, rfl⟩]
          · rw [sI_c (by decide), hσm, sI_c (by decide), a4, u3, hσ4]
            show zI (sI (sI σ3 2 (qS x) (dM d) 0 (nI L0)) 3 (qS x) (dM d) 0 (nI (L0 + l.length))) 3 (qS x) (dM d) 0 = _
            rw [zI_sI, if_pos ⟨rfl, rfl, rfl, rfl⟩]
          · rw [hσm, a4, u3, hσ4]; exact w5
        · rw [hσ7]; exact (o6 c (by rw [dc_M] at hcc; omega)).chk qc
      · rw [hρ8]; exact (o7 s hs).chk (Nat.lt_of_lt_of_le hs hN)
      · by_cases qc : c = dM d
        · unfold PRcz
          rw [dc_CS, dc_CF, dc_CO, if_pos qc, if_pos qc, if_pos qc, qc, hρ8]
          refine ⟨?_, ?_, z0, ?_, by omega, ?_⟩
          · rw [sI_c (by decide), sI_c (by decide), sI_c (by decide), zI_sI, if_pos ⟨rfl, rfl, rfl, rfl⟩]
          · rw [sI_c (by decide), zI_sI, if_pos ⟨rfl, rfl, rfl, rfl⟩]
          · rw [sI_c (by decide), sI_c (by decide), zI_sI, if_pos ⟨rfl, rfl, rfl, rfl⟩]; exact w1
          · rw [hρm, u4]; exact w6
        · refine PRcz.chk ?_ qc
          obtain ⟨b1, b2, a, b3, b4, b5⟩ := o8 c (by rw [dc_M] at hcc; omega)
          rw [hρ8]
          refine ⟨?_, ?_, a, ?_, b4, b5⟩
          · rw [sI_c (by decide), sI_c (by decide), sI_c (by decide), zI_sI, if_neg (fun z => qc z.2.2.2)]; exact b1
          · rw [sI_c (by decide), zI_sI, if_neg (fun z => qc z.2.2.2), sI_c (by decide), sI_c (by decide)]; exact b2
          · rw [sI_c (by decide), sI_c (by decide), zI_sI, if_neg (fun z => qc z.2.2.2), sI_c (by decide)]; exact b3
  · rw [if_neg qq, if00, bq_e (u2.wr hc)]
    have hn : ∀ k, 19 ≤ k → k ≤ 21 → ¬ zI σ5 260 0 0 0 = ck k := fun k h1 h2 z => by
      rw [u2.c0, ← hkk] at z
      have := (ck_e (k := kk) (j := k) (by rw [hkk]; exact hv.1) (by unfold vk; simp; omega)).mp z
      omega
    have ecC : cC5 σ5 = bq (fX4_fail σ5) fun _ z => some ((), z) := by
      unfold cC5
      rw [if_neg (show ¬ zI σ5 260 0 0 0 = 147 from hn 19 (by decide) (by decide)), if_neg (show ¬ zI σ5 260 0 0 0 = 148 from hn 20 (by decide) (by decide)), if_neg (show ¬ zI σ5 260 0 0 0 = 149 from hn 21 (by decide) (by decide))]
    obtain ⟨⟨⟩, z3, w2, w3⟩ := wp_ex (Er.fail u2.2.2.1 hc u2.1 u2.2.1)
    rw [ecC, bq_e w2]
    exact sm_x w3.e0
end CN
