/-! ITEMS, both: a check, from its word -/
section CO
variable {x : Cx} {t : Nat} {σ ρ : Zs} {d : Pd}
theorem x_check (hc : Cok x) (h : ITm x d t σ ρ) (hK : qk x t = 17) : SM (Er0 x) (fX4_check σ) (fX14_item ρ) (fun _ σ' _ ρ' => ∃ t' d', t + 2 ≤ t' ∧ ITm x d' t' σ' ρ') := by
  obtain ⟨σa, a1, a2, a3, a4⟩ := s_startc h
  obtain ⟨i1, i2, i3, i4, i5, i6, i7⟩ := id h
  have hIa : IP x 1 t σa ρ := ⟨a2, i2, i3.mf a3, i4, i5⟩
  obtain ⟨σ2, b1, b2, b3, ⟨ka, kp, kw, b4⟩, _⟩ := s_tk hc hIa (by omega)
  obtain ⟨ρ1, hρ1⟩ : ∃ y, y = sI ρ 905 0 0 0 (nI (t + 1)) := ⟨_, rfl⟩
  rw [← hρ1] at b2 b3
  have r2 : (zR ρ1 909 0 0 0).2 = 0 := by rw [hc.g b3.2.1]
  have r1 : (zR ρ1 909 0 0 0).1 = qG x := by rw [hc.g b3.2.1]
  have hitem : fX14_item ρ = bw (if 8 ≤ zI ρ1 781 (qG x) 0 0 then fX14_check_22 (nI (qp x t)) 0 ρ1 else fX14_check_22 (nI (qp x t)) 1 ρ1) fun _ ρ => some (.ok (), ρ) := by
    unfold fX14_item
    rw [if_pos (hIa.g5 hc), if_pos (hIa.g5 hc), hIa.k9 hc, hIa.p9 hc, hK, if_pos (show (nI 17 : Int32) = 17 from rfl)]
    unfold fX14_check
    rw [bw_e b2, if_pos r2, r1]
  rw [hitem, chk_e, show zI σ 261 0 0 0 = nI (qp x t) from i3.2.2.2.2.1, bq_e a1, bq_e (b1 (ck 17) (by rw [hK]))]
  have main : (qM x = 1 → dM d < 8 ∧ σa = scC σ (qS x) (dM d)) → SM (Er0 x) (bq (fX4_takeName 2 σ2) fun _ z => cC3 z) (bw (fX14_check_22 (nI (qp x t)) 1 ρ1) fun _ ρ => some ((.ok (), ρ) : Except (Int32 × Int32) Unit × Zs)) (fun _ σ' _ ρ' => ∃ t' d', t + 2 ≤ t' ∧ ITm x d' t' σ' ρ') := fun hs => by
    rw [c22_e, bw_e must_1, bw_as2]
    have hst : qM x = 1 → ∃ L z, GoodD d ∧ OLD x d L z σ ρ ∧ CIx x d L z σ ρ (t + 1) σ2 ρ1 := fun m => by
      obtain ⟨g1, gG, L, z, g2, g3, g4, g5, g6⟩ := i7 m
      refine ⟨L, z, gG, g6, ?_⟩
      rw [b4, hρ1, (hs m).2]
      have ic0 : IFC (qS x) (dN d) (dM d) L σ σ := ⟨fun _ _ _ _ _ => ⟨rfl, rfl, rfl⟩, fun _ _ => ⟨rfl, rfl⟩⟩
      have c0 : CIx x d L z σ ρ t (scC σ (qS x) (dM d)) ρ := ⟨g1, rfl, rfl, IFC.R (IFC.I ic0 (wI_0 rfl) (fun z => by cases z)) (wI_0 rfl), ⟨fun _ _ _ _ _ => ⟨rfl, rfl, rfl⟩, fun _ _ => ⟨rfl, rfl⟩⟩, L, z, Nat.le_refl _, Nat.le_refl _, g2, g3, g4, g5⟩
      exact c0.av (Nat.le_succ t)
    obtain ⟨L, z, hst⟩ : ∃ L z, qM x = 1 → GoodD d ∧ OLD x d L z σ ρ ∧ CIx x d L z σ ρ (t + 1) σ2 ρ1 := by
      rcases m01 hc with m | m
      · exact ⟨0, 0, fun q => by omega⟩
      · obtain ⟨L, z, k⟩ := hst m
        exact ⟨L, z, fun _ => k⟩
    refine sm_b (s_strm (d := d) (Q := fun A z => z = sI (sR σ2 198 0 0 0 (qS x, A)) 0 (qS x) (dM d) 0 (nI A)) hc b3 (by omega) (Or.inl rfl) (fun m => ?_) (fun m A hA hs' => ?_) (fun m hs' => ?_)) (fun _ σ3 w ρ3 q => ?_) (fun _ _ _ _ g => g.go0 fun h => k_cC3 h)
    · obtain ⟨g1, g2, g3⟩ := hst m
      exact ⟨g3.1, (g3.old g2).nms g1.1.1⟩
    · obtain ⟨g1, g2, g3⟩ := hst m
      have hN := g1.1.1
      exact ⟨_, fi_K g3.1 g3.2.1 g3.2.2.1 b3.1.2.1.1 (by omega) hs', rfl⟩
    · obtain ⟨g1, g2, g3⟩ := hst m
      exact fi_no g3.1 b3.1.2.1.1 hs'
    · obtain ⟨q1, q2, q3, q4, q5⟩ := q
      have hlift : ∀ A, w = nI A → CW x d L z σ ρ A (t + 1 + 1) σ3 ρ3 → SM (Er0 x) (cC3 σ3) (bw (lC3 w ρ3) fun _ ρ => some ((.ok (), ρ) : Except (Int32 × Int32) Unit × Zs)) (fun _ σ' _ ρ' => ∃ t' d', t + 2 ≤ t' ∧ ITm x d' t' σ' ρ') := fun A hw hD => by
        rw [hw, show cC3 σ3 = bq (cC3 σ3) fun _ z => some ((), z) from bq_id.symm]
        exact sm_b (x_chk3 hc q3 hD) (fun _ _ _ _ ⟨t', d', e1, e2⟩ => sm_ok ⟨t', d', by omega, e2⟩) (fun _ _ _ _ g => g)
      rcases m01 hc with m | m
      · refine hlift 0 (q4 m) ⟨fun _ => ⟨?_, rfl⟩, fun q => by omega⟩
        rw [q2, hρ1]; exact i6 m
      · obtain ⟨A, σ4, u1, u2, u3, k, p, v, u4⟩ := q5 m
        obtain ⟨g1, g2, g3⟩ := hst m
        refine hlift A u2 ⟨fun q => by omega, fun _ => ⟨g1, g2, (hs m).1, u1, ?_, ?_, ?_⟩⟩
        · rw [u4, u3, q2]
          obtain ⟨h1, h2, h3, h4, h5, L', z', h6, h7, h8, h9, h10, h11⟩ := g3
          refine CIx.av (t := t + 1) ⟨?_, ?_, h3, (h4.R (wI_0 rfl)).I (wI_K rfl) (fun z => by cases z), h5, L', z', h6, h7, h8, h9, ?_, h11⟩ (Nat.le_succ _)
          · rw [sI_c (by decide)]; exact h1
          · rw [sI_c (by decide)]; exact h2
          · rw [sI_c (by decide)]; exact h10
        · rw [u4, u3]; rfl
        · rw [u4, u3]
          show zI (sI _ 0 (qS x) (dM d) 0 (nI A)) 0 (qS x) (dM d) 0 = nI A
          rw [zI_sI, if_pos ⟨rfl, rfl, rfl, rfl⟩]
  rcases m01 hc with m | m
  · have e781 : zI ρ1 781 (qG x) 0 0 = nI 0 := by rw [hρ1, sI_c (by decide)]; exact (i6 m).2.1
    rw [e781, if_neg (by decide)]
    exact main (fun q => by omega)
  · obtain ⟨g1, gG, L, z, g2, g3, g4, g5, g6⟩ := i7 m
    have hM := gG.1.2.1
    have e781 : zI ρ1 781 (qG x) 0 0 = nI (dM d) := by rw [hρ1, sI_c (by decide)]; exact g6.2.2.2.1
    rw [e781, show (8 : Int32) = nI 8 from rfl]
    rcases a4 m with ⟨q1, q2⟩ | ⟨q1, q2⟩
    · rw [if_neg (fun z => by have := (n_le (by omega) (by omega)).mp z; omega)]
      exact main (fun _ => ⟨q1, q2⟩)
    · rw [if_pos ((n_le (by omega) (by omega)).mpr (by omega)), c22_e, bw_x (must_e m hc b3.2.1)]
      have hE : Er x 1 (4, nI (qp x t)) σ2 ρ1 := by
        have w1 : Wp1 (fX4_take (ck 17) σa) fun _ z => Er x 1 (4, nI (qp x t)) z ρ1 := Er.go (show Er x 1 (4, nI (qp x t)) σa ρ1 from ⟨a2, b3.2.1, q2⟩) fun h => k_take h
        rw [b1 (ck 17) (by rw [hK])] at w1
        exact w1
      exact sm_xw rfl (hE.go0 fun h => kb (k_takeName h (by omega) (Or.inl rfl)) fun _ _ h => k_cC3 h)
end CO
