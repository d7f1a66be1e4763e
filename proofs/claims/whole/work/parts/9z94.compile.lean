/-! COMPILE: the call -/
section CQ
variable {B P Q S g L : Nat} {d d' : Pd} {X : Nat → Nat → Nat} {σ σ1 σ' ρ ρ2 ρ' : Zs}
theorem cb_1 {ρb ρ1 : Zs} {e : Int32 × Int32} (h : fX14_readAll ρb = some (.error e, ρ1)) : fX14_compile_b ρb = some ((e.1, cR ρb), sI (sI ρ1 915 0 0 0 e.2) 900 0 0 0 0) := by
  unfold fX14_compile_b
  rw [h]
theorem cb_2 {ρb ρ1 ρ2 : Zs} {e : Int32 × Int32} (h : fX14_readAll ρb = some (.ok (), ρ1)) (h2 : fX14_readAll (sI ρ1 906 0 0 0 1) = some (.error e, ρ2)) : fX14_compile_b ρb = some ((e.1, cR ρb + cR (sI ρ1 906 0 0 0 1)), sI (sI ρ2 915 0 0 0 e.2) 900 0 0 0 0) := by
  unfold fX14_compile_b
  rw [h]
  simp only [h2]
theorem cb_3 {ρb ρ1 ρ2 ρ7 ρ8 : Zs} (h : fX14_readAll ρb = some (.ok (), ρ1)) (h2 : fX14_readAll (sI ρ1 906 0 0 0 1) = some (.ok (), ρ2)) (h3 : fX14_keepOld ρ2 = some ((), ρ7)) (h4 : zR ρ7 909 0 0 0 = (g, 0)) (h5 : fX14_empty (sI (sR ρ7 898 0 0 0 (g, 0)) 946 0 0 0 0) = some ((), ρ8)) : fX14_compile_b ρb = some ((0, cR ρb + cR (sI ρ1 906 0 0 0 1)), sI ρ8 900 0 0 0 0) := by
  unfold fX14_compile_b
  rw [h]
  simp only [h2, h3, h4]
  rw [if_pos trivial, h5]
theorem f_compile (h : Rl B P Q S g L d X σ ρ) : ∃ v n σ' ρ', fX11_compile σ = some (v, σ') ∧ fX14_compile ρ = some ((v, n), ρ') ∧ n ≤ B + 2 ∧ zI ρ' 896 0 0 0 = 0 ∧ Rel 0 σ' ρ' := by
  obtain ⟨⟨p1, p2, p3, p4, p5, p6, p7⟩, ⟨hW, hPC, hPR, hz, hz3, hP⟩, hE, hG, hF, hNm, ⟨r1, r2, r3⟩, hL, hM, hV, ⟨T, tf, ⟨hTB, hT5⟩, t2, t3, t4⟩, hO, hK, h12, hS⟩ := id h
  obtain ⟨σ2, ρ1, M, a1, a2, a3, a4, a5⟩ := r_tokens (T := T) (f := tf) (σ := σ) (ρ := sI ρ 896 0 0 0 0) ⟨hT5, t3, t4⟩ hK
  have h898 : zR ρ1 898 0 0 0 = (g, 0) := ((a5 898 rfl 0 0 0).2.2).trans hz3
  have hcg : cmG ρ1 = 1 - g := by unfold cmG; rw [h898]
  have hS2 : San0 σ2 := by
    obtain ⟨⟨w, b1, b2⟩, b3⟩ := hS
    refine ⟨⟨w, b1, ((a4 201 rfl 0 0 0).1).trans b2⟩, fun p s => ?_⟩
    obtain ⟨v, c1, c2⟩ := b3 p s
    exact ⟨v, c1, ((a4 450 rfl p s 0).1).trans c2⟩
  have hBeg := beg_1 (S := S) hT5 a3 h898 hS2
  have hM2 : M ≤ T + 1 := a3.2.2.1
  obtain ⟨v, σ1, c1, c2, c3⟩ := x_twice hBeg
  -- the frames
  have k0 : FrR (1 - g) ρ (cmZ ρ1) := ((FrR.rf.I (c := 896) rfl).tr (TFR.frR a5)).tr (frR_cmZ hcg)
  have f0 : FrC S σ σ1 := by
    refine (FrC.tr (TFC.frC a4) ?_ : FrC S σ (sI (sI (bgC (sI σ2 705 0 0 0 0) S) 258 0 0 0 (-1)) 259 0 0 0 (-1))).tr c2.2.1.frC
    unfold bgC
    exact FrC.I (FrC.I (FrC.I (FrC.I (FrC.I (FrC.I (FrC.I (FrC.R (FrC.I FrC.rf (Or.inl rfl)) (Or.inr (w0 rfl))) (Or.inr (wS rfl))) (Or.inr (wS rfl))) (Or.inr (wS rfl))) (Or.inr (w0 rfl))) (Or.inr (w0 rfl))) (Or.inr (w0 rfl))) (Or.inr (w0 rfl))
  have hS1 : San0 σ1 := ⟨c2.1.2.2.2.2.1, c2.1.2.2.2.2.2.1⟩
  have h705 : zI σ1 705 0 0 0 = nI 0 := ((c2.2.1 705 0 (wKn rfl rfl) 0 0).1).trans rfl
  have eC : ∀ {w : Int32 × Zs}, (if v < 0 then (lt (sI σ1 712 0 0 0 (zI σ1 193 0 0 0)) fun σ16 => if (zI σ16 192 0 0 0) = 0 then (bq (fX11_takeSpareProgram σ16) fun v18 σ19 => some ((zI σ19 192 0 0 0), σ19)) else (some ((zI σ16 192 0 0 0), σ16))) else (lt (sI σ1 712 0 0 0 v) fun σ22 => some (1, σ22))) = some w → fX11_compile σ = some w := fun {w} hw => by
    unfold fX11_compile
    rw [t2, bq_e a1, lt_k, show (zR (sI σ2 705 0 0 0 0) 709 0 0 0).1 = S by rw [show zR (sI σ2 705 0 0 0 0) 709 0 0 0 = (S, 0) from ((a4 709 rfl 0 0 0).2.2).trans r3], bq_e begin_C, bq_e (parse_C.trans c1)]
    exact hw
  have eL : ∀ {w : (Int32 × Nat) × Zs}, fX14_compile_b (cmZ ρ1) = some w → fX14_compile ρ = some w := fun {w} hw => by
    unfold fX14_compile
    rw [a2]
    exact hw
  have z896 : ∀ {ρ9 : Zs}, LQ (1 - g) (cmZ ρ1) ρ9 → zI ρ9 896 0 0 0 = 0 := fun {ρ9} hq => by
    refine ((hq 896 0 (by decide) (wln rfl rfl) 0 0).1).trans ?_
    refine Eq.trans (b := zI ρ1 896 0 0 0) ?_ ((a5 896 rfl 0 0 0).1)
    exact (zP_o (ρ := ρ1) (g' := cmG ρ1) (c := 896) (q := 0) (s := 0) (i := 0) (Or.inl rfl)).1
  rcases c3 with ⟨e, ρ5, d1, d2, d3, d4, d5, d6⟩ | ⟨ρ5, w, ρ6, d1, d2, d3, d4, d5, d6⟩
  · have hv : (1 : Int32) = e.1 := d3.symm
    refine ⟨1, cR (cmZ ρ1), sI σ1 712 0 0 0 v, sI (sI ρ5 915 0 0 0 e.2) 900 0 0 0 0, eC ?_, eL ?_, ?_, by exact z896 (ρ9 := ρ5) d2, (rl_fail (σ' := sI σ1 712 0 0 0 v) (ρ' := sI (sI ρ5 915 0 0 0 e.2) 900 0 0 0 0) h (f0.I (Or.inl rfl)) (((k0.tr d2.frR).I rfl).I rfl) h705 rfl d4.symm hS1).rel⟩
    · rw [if_neg d5, lt_k]
    · rw [cb_1 d1, hv]
    · have : (tkO ρ1 M).1 = M := rfl
      omega
  · have hn : cR (cmZ ρ1) + cR (sI ρ5 906 0 0 0 1) ≤ B + 2 := by
      have : (tkO ρ1 M).1 = M := rfl
      omega
    have k6 : FrR (1 - g) ρ ρ6 := k0.tr d3.frR
    rcases d6 with ⟨e, rfl, b1, b2, b3⟩ | ⟨rfl, b1, b2, d', b3, b4, b5, b6⟩
    · refine ⟨e.1, _, sI σ1 712 0 0 0 (zI σ1 193 0 0 0), sI (sI ρ6 915 0 0 0 e.2) 900 0 0 0 0, eC ?_, eL (cb_2 d1 d2), hn, by exact z896 (ρ9 := ρ6) d3, (rl_fail (σ' := sI σ1 712 0 0 0 (zI σ1 193 0 0 0)) (ρ' := sI (sI ρ6 915 0 0 0 e.2) 900 0 0 0 0) h (f0.I (Or.inl rfl)) ((k6.I rfl).I rfl) h705 rfl b2 hS1).rel⟩
      rw [if_pos d4, lt_k]
      show (if zI σ1 192 0 0 0 = 0 then _ else some (zI σ1 192 0 0 0, _)) = _
      rw [if_neg b3, b1]
    · have h915 : zI ρ6 915 0 0 0 = -nI 1 := ((d3 915 0 (by decide) (wln rfl rfl) 0 0).1).trans rfl
      obtain ⟨σ', ρ', u1, u2, u3, u4, u5, u6⟩ := rl_new (σ1 := sI σ1 712 0 0 0 (zI σ1 193 0 0 0)) (ρ2 := ρ6) h (f0.I (Or.inl rfl)) k6 (b3.fr fun c hc s i => ⟨by
        rw [zI_sI, if_neg (fun z => by rw [z.1] at hc; cases hc)], rfl⟩) b4 b5 b6 h705 (b2.trans h915.symm) hS1
      have h909 : zR (kF ρ6 g (dN d)) 909 0 0 0 = (1 - g, 0) := by
        refine ((kf_o (by decide)).2.2).trans (((d3 909 0 (by decide) (wln rfl rfl) 0 0).2.2).trans ?_)
        rw [← hcg]
        rfl
      refine ⟨0, _, σ', sI ρ' 900 0 0 0 0, eC ?_, eL (cb_3 d1 d2 u2 h909 u3), hn, u6.trans (z896 d3), u4⟩
      rw [if_pos d4, lt_k]
      show (if zI σ1 192 0 0 0 = 0 then _ else _) = _
      rw [if_pos b1, bq_e u1, u5]
      show some (zI σ1 192 0 0 0, σ') = _
      rw [b1]
end CQ
