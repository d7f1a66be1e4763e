/-! ITEMS, both: a step, whole -/
noncomputable def cStp (z : Zs) : Option (Unit × Zs) := bq (fX4_take 61 z) fun _ z => cWork z
section SS7
variable {x : Cx} {t : Nat} {σ ρ : Zs} {d : Pd}
theorem step_e : fX4_step σ = bq (fX3_startStream (zI σ 261 0 0 0) σ) fun _ z => bq (fX4_take (ck 2) z) fun _ z => bq (fX4_takeName 0 z) fun _ z => cStp z := rfl
theorem x_step (hc : Cok x) (h : ITm x d t σ ρ) (hK : qk x t = 2) : SM (Er0 x) (fX4_step σ) (fX14_item ρ) (fun _ σ' _ ρ' => ∃ t' d', t + 2 ≤ t' ∧ ITm x d' t' σ' ρ') := by
  obtain ⟨σa, a1, a2, a3, a4⟩ := s_start hc h
  obtain ⟨i1, i2, i3, i4, i5, i6, i7⟩ := id h
  have hIa : IP x 0 t σa ρ := ⟨a2, i2, i3.mf a3, i4, i5⟩
  rw [step_e, show zI σ 261 0 0 0 = nI (qp x t) from i3.2.2.2.2.1, bq_e a1]
  have hkR : ∀ σ0 z, St (qS x) 0 σ0 z → Wp1 (cStp z) fun _ => St0 (qS x) σ0 := fun σ0 z h => kb (k_take h) fun _ _ h => k_cWork h
  refine s_head (d := d) hc hK (Or.inr rfl) hIa i6 (fun m => ?_) hkR (fun σ' ρ' n1 n2 n3 n4 => ?_)
  · obtain ⟨g1, gG, L, z, g2, g3, g4, g5, g6⟩ := i7 m
    refine ⟨⟨g6.2.2.1, gG.1.1⟩, ?_⟩
    rcases a4 m with ⟨q1, q2⟩ | ⟨q1, q2⟩
    · refine Or.inl ⟨q1, ?_, ?_, ?_⟩
      · rw [q2]; exact g1
      · rw [q2]; rfl
      · have := g6.nms gG.1.1
        refine ⟨?_, this.2.1, this.2.2.1, fun s hs => ⟨?_, (this.2.2.2 s hs).2⟩⟩
        · rw [q2]; exact this.1
        · rw [q2]; exact (this.2.2.2 s hs).1
    · exact Or.inr ⟨q1, q2⟩
  · have hsi : sIdx x d < 12 := by
      rcases m01 hc with m | m
      · unfold sIdx; rw [if_pos m]; decide
      · rw [sIdx_1 m]; exact (n4 m).1
    have gs : gi (nI (sIdx x d)) 12 := (n_gi (by omega)).mpr hsi
    have r2 : (zR ρ' 909 0 0 0).2 = 0 := by rw [hc.g n2.2.1]
    have r1 : (zR ρ' 909 0 0 0).1 = qG x := by rw [hc.g n2.2.1]
    obtain ⟨ρ2, hρ2⟩ : ∃ y, y = sI (sI ρ' 1797 (qG x) 0 (sIdx x d) (-1)) 1798 (qG x) 0 (sIdx x d) (-1) := ⟨_, rfl⟩
    have h2 : IP x 0 (t + 1 + 1) σ' ρ2 := by rw [hρ2]; exact n2.lw ((n2.2.1.I (wlG rfl)).I (wlG rfl)) rfl rfl rfl
    have hl : fX14_item_157 (nI 2) (qw x (t + 1)) (nI (qp x (t + 1))) (nI (sIdx x d)) ρ' = bw (fX14_take_ 104 ρ2) fun _ ρ48 => bw (fX14_work (nI (sIdx x d)) ρ48) fun _ ρ53 => lEnd (qw x (t + 1)) (nI (qp x (t + 1))) (nI (sIdx x d)) ρ53 := by
      unfold fX14_item_157
      have p2 : ∀ p i, (zR (sI ρ' 1797 p 0 i (-1)) 909 0 0 0).2 = 0 := fun _ _ => r2
      have p1 : ∀ p i, (zR (sI ρ' 1797 p 0 i (-1)) 909 0 0 0).1 = qG x := fun _ _ => r1
      rw [if_pos r2, if_pos gs, lt_k, if_pos (p2 _ _), if_pos gs, lt_k, p1, r1, n_cl (show sIdx x d < 2147483648 by omega), ← hρ2, if_neg (show ¬ (nI 2 : Int32) = 0 by decide)]
      rfl
    obtain ⟨L, z, σb, ρb, hB⟩ : ∃ L z σb ρb, SW0 x d L z σb ρb (qw x (t + 1)) (qp x (t + 1)) (t + 1 + 1) σ' ρ2 ∧ (qM x = 1 → zI σ' 456 (qS x) (dN d) 0 = nI 0) := by
      rcases m01 hc with m | m
      · refine ⟨0, 0, σ, ρ, ⟨fun _ => ?_, fun q => by omega⟩, fun q => by omega⟩
        rw [hρ2, n3]
        exact ⟨i6 m, rfl⟩
      · obtain ⟨g1, gG, L, z, g2, g3, g4, g5, g6⟩ := i7 m
        obtain ⟨q1, q2, ka, kp', kw, ka2, kp2, kw2, e⟩ := n4 m
        rcases a4 m with ⟨_, hσa⟩ | ⟨q3, _⟩
        · refine ⟨L, z, σ, ρ, ⟨fun q => by omega, fun _ => ⟨⟨gG, g6, q1, (hc.1.2.2.1 (t + 1) (by have := n2.2.2.1.1; omega)).2.2.2.2.2.2.2.2.1 n1, q2⟩, ?_, ?_, ?_, ?_, ?_, ?_, ?_⟩⟩, fun _ => ?_⟩
          · rw [hρ2, n3, sIdx_1 m, e, hσa]
            have s1 : SIx x d L z σ ρ t (ssC σ (qS x) (dN d)) ρ := SIx.start g1 g2 g3 g4 g5
            have s2 := s1.av (a := ka) (p := kp') (w := kw) (v := nI (t + 1)) (Nat.le_succ t)
            have s3 := ((s2.cJ (c := 448) (q := qS x) (s := dN d) (i := 0) (v := qw x (t + 1)) (wI_S rfl) (by decide)).cI (c := 202) (q := 0) (s := 0) (i := 0) (v := nI (qp x (t + 1))) (wI_0 rfl) (by decide)).av (a := ka2) (p := kp2) (w := kw2) (v := nI (t + 1 + 1)) (show t.succ ≤ t + 1 + 1 by omega)
            exact ((s3.lI (wJ_0 rfl) (by decide)).lI (wJ_G rfl) (by decide)).lI (wJ_G rfl) (by decide)
          · rw [e]
            show zJ (sJ _ 448 (qS x) (dN d) 0 (qw x (t + 1))) 448 (qS x) (dN d) 0 = _
            rw [zJ_sJ, if_pos ⟨rfl, rfl, rfl, rfl⟩]
          · rw [e, hσa]
            show zI (sI _ 1476 (qS x) (dN d) 1 (-1)) 1476 (qS x) (dN d) 1 = -1
            rw [zI_sI, if_pos ⟨rfl, rfl, rfl, rfl⟩]
          · rw [e]; rfl
          · rw [e, hσa]; rfl
          · rw [hρ2, sIdx_1 m, zI_sI, if_pos ⟨rfl, rfl, rfl, rfl⟩]
          · rw [hρ2, sI_c (by decide), sI_c (by decide), n3]; rfl
          · rw [e, hσa]
            show zI (sI _ 456 (qS x) (dN d) 0 0) 456 (qS x) (dN d) 0 = nI 0
            rw [zI_sI, if_pos ⟨rfl, rfl, rfl, rfl⟩]; rfl
        · exact absurd q1 q3
    obtain ⟨hB1, hB2⟩ := hB
    rw [hl]
    unfold cStp
    refine sm_b (s_take hc h2 (K := 104) rfl (by decide) (show ck 104 = 61 from rfl)) (fun _ σ3 _ ρ3 q => ?_) (fun _ _ _ _ g => g.go0 fun h => k_cWork h)
    obtain ⟨q1, q2, ⟨ka, kp, kw, q3⟩, q4⟩ := q
    have D3 : SW0 x d L z σb ρb (qw x (t + 1)) (qp x (t + 1)) (t + 1 + 1 + 1) σ3 ρ3 := by
      rw [q3, q4]
      refine ⟨fun m => hB1.1 m, fun m => ?_⟩
      obtain ⟨d1, d2, d3⟩ := hB1.2 m
      exact ⟨d1, d2.av' (Nat.le_succ _), d3⟩
    refine sm_m (x_work hc q2 D3 (fun m => by rw [q3]; exact hB2 m)) (fun _ _ _ _ ⟨t', d', e1, e2⟩ => ⟨t', d', by omega, e2⟩)
end SS7
