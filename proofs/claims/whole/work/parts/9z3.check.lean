/-! ITEMS, both: a check, whole -/
section CN
variable {x : Cx} {t : Nat} {σ ρ : Zs} {d : Pd}
theorem CIx.av {L z t2 u : Nat} {σb ρb : Zs} {a p : Int32} {w : Int64} {v : Int32} (h : CIx x d L z σb ρb t σ ρ) (ht : t ≤ t2) : CIx x d L z σb ρb t2 (avC σ u a p w) (sI ρ 905 0 0 0 v) := by
  obtain ⟨h1, h2, h3, h4, h5, L', z', h6, h7, h8, h9, h10, h11⟩ := h
  exact ⟨h1, h2, h3, h4.av, h5.I (wJ_0 rfl) (fun z => by cases z), L', z', h6, h7, by omega, by omega, h10, h11⟩
theorem CIx.old {L z : Nat} {σb ρb : Zs} (h : CIx x d L z σb ρb t σ ρ) (hB : OLD x d L z σb ρb) : OLD x d L z σ ρ := hB.fr h.2.2.2.1 h.2.2.2.2.1 (Nat.le_refl _) (Nat.le_refl _)
/-- behind its input -/
def CW (x : Cx) (d : Pd) (L z : Nat) (σb ρb : Zs) (A t : Nat) (σ ρ : Zs) : Prop := (qM x = 0 → M0 x ρ ∧ A = 0) ∧ (qM x = 1 → GoodD d ∧ OLD x d L z σb ρb ∧ dM d < 8 ∧ A < dN d ∧ CIx x d L z σb ρb t σ ρ ∧ zR σ 198 0 0 0 = (qS x, A) ∧ zI σ 0 (qS x) (dM d) 0 = nI A)
theorem x_chk3 (hc : Cok x) {L z A : Nat} {σb ρb : Zs} (h : IP x 1 t σ ρ) (hD : CW x d L z σb ρb A t σ ρ) : SM (Er0 x) (cC3 σ) (lC3 (nI A) ρ) (fun _ σ' _ ρ' => ∃ t' d', t ≤ t' ∧ ITm x d' t' σ' ρ') := by
  unfold cC3 lC3
  refine sm_b (s_take hc h (K := 103) rfl (by decide) (show ck 103 = 58 from rfl)) (fun _ σ2 _ ρ2 q => ?_) (fun _ _ _ _ g => g.go0 fun h => kb (k_whole h (by omega)) fun _ _ h => kb (k_take h) fun _ _ h => k_cC5 h)
  obtain ⟨q1, q2, ⟨ka, kp, kw, q3⟩, q4⟩ := q
  rw [lt_k]
  obtain ⟨ρ3, hρ3⟩ : ∃ y, y = sI ρ2 910 0 0 0 (nI A) := ⟨_, rfl⟩
  have hI3 : IP x 1 (t + 1) σ2 ρ3 := by rw [hρ3]; exact q2.lw (q2.2.1.I (wl0 rfl)) rfl rfl rfl
  rw [← hρ3]
  obtain ⟨L0, z0, hm⟩ : ∃ L0 z0, qM x = 1 → CIx x d L z σb ρb (t + 1) σ2 ρ3 ∧ L ≤ L0 ∧ z ≤ z0 ∧ zI σ2 326 (qS x) 0 0 = nI L0 ∧ zI ρ3 785 (qG x) 0 0 = nI z0 ∧ L0 ≤ t + 1 ∧ z0 ≤ 2 * (t + 1) := by
    rcases m01 hc with m | m
    · exact ⟨0, 0, fun q => by omega⟩
    · have s2 : CIx x d L z σb ρb (t + 1) σ2 ρ2 := by rw [q3, q4]; exact (hD.2 m).2.2.2.2.1.av (Nat.le_succ t)
      obtain ⟨g1, g2, g3, g4, g5, L', z', c6, c7, c8, c9, c10, c11⟩ := s2
      have e785 : zI ρ3 785 (qG x) 0 0 = nI z' := by rw [hρ3, sI_c (by decide)]; exact c11
      exact ⟨L', z', fun _ => ⟨⟨g1, g2, g3, g4, by rw [hρ3]; exact g5.I (wJ_0 rfl) (fun z => by cases z), L', z', c6, c7, c8, c9, c10, e785⟩, c6, c7, c10, e785, c8, c9⟩⟩
  have hw : qM x = 1 → zI σ2 192 0 0 0 = 0 ∧ Scp x A (dW d A) σ2 ρ3 ∧ zI σ2 326 (qS x) 0 0 = nI L0 ∧ zI ρ3 785 (qG x) 0 0 = nI z0 ∧ L0 ≤ t + 1 ∧ z0 ≤ 2 * (t + 1) := fun m => by
    obtain ⟨g1, g2, g3, g4, g5, g6, g7⟩ := hD.2 m
    obtain ⟨m1, _, _, m4, m5, m6, m7⟩ := hm m
    obtain ⟨c1, _⟩ := (m1.old g2).col g1 g4
    exact ⟨m1.1, ⟨c1.1, c1.2.1, by rw [q3]; exact g6, by rw [hρ3, zI_sI, if_pos ⟨rfl, rfl, rfl, rfl⟩], c1.2.2.1, c1.2.2.2.1, c1.2.2.2.2⟩, m4, m5, m6, m7⟩
  refine sm_b (x_whole hc hI3 (by omega) hw) (fun _ σ4 s ρ4 g => ?_) (fun _ _ _ _ q => q.go0 fun h => kb (k_take h) fun _ _ h => k_cC5 h)
  obtain ⟨t', σ3, l, g1, g2, g3, g4, g5, g6⟩ := g
  refine sm_b (s_take hc g3 (K := 18) rfl (by decide) (show ck 18 = 146 from rfl)) (fun _ σ5 _ ρ5 q => ?_) (fun _ _ _ _ g => g.go0 fun h => k_cC5 h)
  obtain ⟨u1, u2, ⟨ka2, kp2, kw2, u3⟩, u4⟩ := q
  have hv := u2.vk hc
  obtain ⟨kk, hkk⟩ : ∃ k, k = qk x (t' + 1) := ⟨_, rfl⟩
  rw [if_pos (u2.g5 hc), u2.k9 hc, ← hkk, bq_e (show fX14_isIn (nI kk).toInt64 19 21 ρ5 = _ from in_R (lo := 19) (hi := 21) (by omega) (by decide) (by decide))]
  by_cases qq : 19 ≤ kk ∧ kk ≤ 21
  · rw [if_pos qq, if10, if_pos (u2.g5 hc), cC5_e (by rw [u2.c0, ← hkk]) qq.1 qq.2]
    obtain ⟨σ6, a1, a2, a3, ⟨kb', kp', kw', a4⟩, _⟩ := s_tk hc u2 (by omega)
    rw [bq_e (a1 (ck kk) (by rw [hkk])), bw_e a2]
    obtain ⟨⟨⟩, σ7, e1, k1, k2⟩ := wp_ex (wp_an (k_endCheck a3.1 (x := ck kk)) (mf_X3_endCheck MF.rf))
    rw [bq_e e1]
    have hp := a3.2.2.1.mf k2
    rcases m01 hc with m | m
    · rw [hc.m a3.2.1, m, if_pos (by rfl)]
      refine sm_ok ⟨t' + 1 + 1, d, by omega, k1, a3.2.1, hp, a3.2.2.2.1, a3.2.2.2.2, fun _ => ?_, fun q => by omega⟩
      obtain ⟨m1, m2, m3⟩ := (hD.1 m).1
      have fr : ∀ c, c ≠ 905 ∧ c ≠ 910 → [905, 907, 908].contains c = false → [785, 1810, 1811].contains c = false → zI (sI ρ5 905 0 0 0 (nI (t' + 1 + 1))) c (qG x) 0 0 = zI ρ c (qG x) 0 0 := fun c hn n1 n2 => by
        rw [sI_c hn.1, u4, sI_c hn.1, (g5.1 c (qG x) (x_wYn n1 n2) 0 0).1, hρ3, sI_c hn.2, q4, sI_c hn.1]
      exact ⟨(fr 768 (by decide) rfl rfl).trans m1, (fr 781 (by decide) rfl rfl).trans m2, (fr 1795 (by decide) rfl rfl).trans m3⟩
    · sorry
  · rw [if_neg qq, if00, bq_e (u2.wr hc)]
    have hn : ∀ k, 19 ≤ k → k ≤ 21 → ¬ zI σ5 260 0 0 0 = ck k := fun k h1 h2 z => by
      rw [u2.c0, ← hkk] at z
      have := (ck_e (k := kk) (j := k) (by rw [hkk]; exact hv.1) (by unfold vk; simp; omega)).mp z
      omega
    have ecC : cC5 σ5 = bq (fX4_fail σ5) fun _ z => some ((), z) := by
      unfold cC5
      rw [if_neg (show ¬ zI σ5 260 0 0 0 = 147 from hn 19 (by decide) (by decide)), if_neg (show ¬ zI σ5 260 0 0 0 = 148 from hn 20 (by decide) (by decide)), if_neg (show ¬ zI σ5 260 0 0 0 = 149 from hn 21 (by decide) (by decide))]
    obtain ⟨⟨⟩, z3, w2, w3⟩ := wp_ex (Er.fail u2.2.2.1 hc u2.1 u2.2.1)
    rw [ecC, bq_e w2]
    exact sm_x w3.e0
end CN
