/-! A RELEASE -/
section RL
variable {P g : Nat} {d : Pd} {σ0 ρ0 : Zs} {τ : Prop} {X : Nat → Nat → Nat} {σ ρ : Zs} {a E : Nat}
theorem ER.a70 (h : ER P d σ0 ρ0 τ X σ ρ) {v : Int32} : ER P d σ0 ρ0 False X (sI σ 70 0 0 0 v) ρ := ⟨False.elim, h.2.1.I (by simp [wC]), h.2.2⟩
theorem ER.t93 (h : ER P d σ0 ρ0 τ X σ ρ) (q : zI σ 70 0 0 0 = nI 0) : ER P d σ0 ρ0 True X σ (sI ρ 930 0 0 0 (nI 0)) := ⟨fun _ => q, h.2.1, h.2.2.1.I (by decide), h.2.2.2⟩
theorem Good.mono1 {X' : Nat → Nat → Nat} (h : Good d E X) (h12 : X' 12 0 = X 12 0) (hk : ∀ k i, k = 1 ∨ k = 2 ∨ k = 3 ∨ k = 7 ∨ k = 8 ∨ k = 11 → X' k i = X k i) (h0 : ∀ i, X 0 i ≤ X' 0 i) (h9 : ∀ i, X' 9 i ≤ X 9 i + 1) : Good d (E + 1) X' := by
  refine ⟨h12.trans h.1, fun s hs hk0 => ?_⟩
  obtain ⟨r1, r2, r3, r4, r5, r6, r7, r8, r9⟩ := h.2 s hs hk0
  unfold Rdy
  have := h9 s
  rw [hk 1 s (by omega), hk 2 s (by omega), hk 7 s (by omega), hk 8 s (by omega), hk 11 s (by omega), hk 3 s (by omega), hk 3 _ (by omega), hk 3 _ (by omega)]
  exact ⟨r1, r2, Nat.le_trans r3 (h0 _), fun q => Nat.le_trans (r4 q) (h0 _), r5, by omega, r7, r8, r9⟩
theorem n_mx {a : Nat} (h : a < 2147483648) : ¬ (nI a : Int32) = -1 := fun q => ((n_m1 h).mp q).elim
theorem sL_j {z : Zs} : sL z = jJ z 1919 0 0 (fun _ => 0) := zs_ext (fun _ _ _ _ => rfl) (fun _ _ _ _ => rfl) (fun _ _ _ _ => rfl)
theorem r_release (hB : EB P g d σ0 ρ0) (h : ER P d σ0 ρ0 τ X σ ρ) (hG : Good d E X) (hE : E + 1 ≤ 1000) (ha : a < X 5 0) :
    ∃ σ2 σ' ρ' X', fX1_doRelease (nI a) (sI σ 70 0 0 0 (nI 0)) = some (1, σ2) ∧ fX1_runSteps σ2 = some ((), σ') ∧ fX14_doRelease (nI a) ρ = some (zI ρ' 930 0 0 0, ρ') ∧ ER P d σ0 ρ0 True X' σ' ρ' ∧ Good d (E + 1) X' ∧ Setl d X' := by
  obtain ⟨hW, hPC, hPR, hz, hz3, hP⟩ := hB.fr h
  have hN := hW.n
  obtain ⟨hh1, hh2, hh3, π, p1, p2, p3⟩ := h.2.2.2.2.2.2.1
  have ha60 : a < 60 := by omega
  obtain ⟨s, t, w, k1, k2, k3, k4, k5, k6, k7, k8, k9⟩ := p3 a ha
  obtain ⟨_, hq⟩ := p1 a ha60
  have hs12 : s < 12 := by omega
  have w6 := hW.w6 k1
  have hTB2 : TB s < 2000000 := by unfold TB; omega
  -- the class's row, the law's row
  obtain ⟨f, hf⟩ : ∃ f : Nat → Int64, f = fun j => if j < 6 then zJ σ 1410 4 (π a) j else zJ σ 1410 0 0 j := ⟨_, rfl⟩
  obtain ⟨σ4, hσ4⟩ : ∃ z, z = wRow (sI σ 70 0 0 0 (nI 0)) 0 0 (nI t) (nI w) f := ⟨_, rfl⟩
  obtain ⟨l, hl⟩ : ∃ l : Nat → Int64, l = va_cpy (zJ ρ 1950 0 0) (fun _ => 0) (7 * a) 0 7 := ⟨_, rfl⟩
  obtain ⟨ρ1, hρ1⟩ : ∃ z, z = jJ ρ 1919 0 0 l := ⟨_, rfl⟩
  have hl0 : l 0 = lN t := by
    rw [hl, pk_cpy_in (by omega) (by omega)]; exact k6
  have hw6 : w ≤ 6 := by
    rcases k9 with ⟨_, _, x3, x4, _⟩ | ⟨_, _, _, _, x4⟩
    · rw [x4]; exact hW.w6 (Nat.lt_trans (hW.a k1 (by rw [x3]; decide)) k1)
    · rw [x4]; exact hW.w6 k1
  have hlc : ∀ c, c < w → f c = l (1 + c) := fun c hc => by
    rw [hf, hl, pk_cpy_in (by omega) (by omega)]
    show (if c < 6 then _ else _) = _
    rw [if_pos (by omega), k8 c hc]
    congr 1; omega
  have hE1 : ER P d σ0 ρ0 False X σ4 ρ1 := by rw [hσ4, hρ1]; exact (h.a70.r0).k19
  have hE2 := hE1.take hW ha
  have hq4 : ∀ j, zR σ4 1089 0 0 j = zR σ 1089 0 0 j := fun j => by rw [hσ4]; rfl
  have h66 : zI σ4 66 0 0 0 = nI (X 5 0) := by rw [hσ4]; exact hh2
  have hT := take_C (σ := σ4) hh1 ha h66 ((hq4 a).trans hq)
  obtain ⟨σ12, hσ12⟩ : ∃ z, z = sI (rK σ4 1089 0 0 (fun j => zR σ4 1089 0 0 (nu a (X 5 0) j))) 66 0 0 0 (nI (X 5 0 - 1)) := ⟨_, rfl⟩
  rw [← hσ12] at hT hE2
  obtain ⟨ρ12, hρ12⟩ : ∃ z, z = sI (takeR ρ1 a (X 5 0)) 930 0 0 0 (nI 0) := ⟨_, rfl⟩
  have hE3 : ER P d σ0 ρ0 True (upx X 5 0 (X 5 0 - 1)) σ12 ρ12 := by
    rw [hρ12]; exact hE2.t93 (by rw [hσ12, hσ4]; rfl)
  have hG3 : Good d E (upx X 5 0 (X 5 0 - 1)) := hG.mono (upx_n (by omega)) (fun k i q => upx_n (by omega)) (fun i => by rw [upx_n (by omega)]; exact Nat.le_refl _) (fun i => by rw [upx_n (by omega)]; exact Nat.le_refl _) (fun i _ _ => upx_n (by omega))
  have e923 : zI ρ1 923 0 0 0 = nI (X 5 0) := by rw [hρ1]; exact hh3
  have hTR := take_R (ρ := ρ1) hh1 ha e923
  have hsL : sC (sL ρ) 1950 0 0 1919 0 0 (7 * a) 0 7 = ρ1 := by
    rw [sC_j, sL_j, jJ_jJ, hρ1, hl]
    rfl
  -- both up to where they part
  have hcp : fX6_copyFrom 0 0 4 (π a) (sI σ 70 0 0 0 (nI 0)) = some ((), σ4) := by
    rw [row_copy (by omega), hσ4, hf]
    have c1 : zI (sI σ 70 0 0 0 (nI 0)) 384 4 (π a) 0 = nI t := k5
    have c2 : zI (sI σ 70 0 0 0 (nI 0)) 385 4 (π a) 0 = nI w := k7
    rw [c1, c2]
    rfl
  have g387 : zI σ4 387 4 (π a) 0 = nI s := by rw [hσ4]; exact k2
  have g321 : zI σ12 321 P 0 0 = nI (dN d) := by rw [hσ12, hσ4]; exact hPC.1
  have g64 : zR σ12 64 0 0 0 = (P, 0) := by rw [hσ12, hσ4]; exact hz
  have z1089 : ∀ v, zR (sI σ 70 0 0 0 v) 1089 0 0 a = (4, π a) := fun _ => hq
  have z66 : ∀ v, zI (sI σ 70 0 0 0 v) 66 0 0 0 = nI (X 5 0) := fun _ => hh2
  have hCl : ∀ x : Int32, zI σ4 388 4 (π a) 0 = x → fX1_doRelease (nI a) (sI σ 70 0 0 0 (nI 0)) = if x = (-1) then (bq (fX1_enterWindow (nI s) 1 σ12) fun v16 σ17 => if v16 = 0 then (some (1, σ17)) else (bq (fX1_give (nI s) 2 0 σ17) fun v20 σ21 => some (1, σ21))) else (bq (fX1_accept (nI s) 0 0 σ12) fun v24 σ25 => some (1, σ25)) := by
    intro x hx
    unfold fX1_doRelease
    have b1 : ¬ a < 0 := by omega
    have b2 : ¬ s < 0 := by omega
    simp (disch := omega) only [z66, z1089, i_0, n_lt, n_gi, n_cl, b1, ha, ha60, ↓reduceIte]
    rw [bq_e hcp]
    simp (disch := omega) only [(hq4 a).trans hq, ↓reduceIte]
    rw [bq_e hT]
    simp (disch := omega) only [g387, g321, g64, hx, n_lt, b2, k1, ↓reduceIte]
    rfl
  have hLw : ∀ x : Int32, zI ρ 1949 0 0 a = x → fX14_doRelease (nI a) ρ = if x = (-1) then (bq (fX14_beginOf (nI s) (zJ ρ12 1919 0 0 0) ρ12) fun v15 ρ16 => bq (fX14_putIn (nI s) 1919 0 0 7 0 v15 1 ρ16) fun v19 ρ20 => if v19 = (-1) then (lt (sI ρ20 928 0 0 0 ((zI ρ20 928 0 0 0) + 1)) fun ρ31 => bq (fX14_doSteps  ρ31) fun v33 ρ34 => some ((zI ρ34 930 0 0 0), ρ34)) else (bq (fX14_offerWindow (nI s) v19 ρ20) fun v23 ρ24 => bq (fX14_doSteps  ρ24) fun v27 ρ28 => some ((zI ρ28 930 0 0 0), ρ28))) else (bq (fX14_load 1919 0 0 7 0 ρ12) fun v37 ρ38 => bq (fX14_store (nI s) ρ38) fun v41 ρ42 => bq (fX14_doSteps  ρ42) fun v45 ρ46 => some ((zI ρ46 930 0 0 0), ρ46)) := by
    intro x hx
    unfold fX14_doRelease
    have b1 : 7 * a + 7 ≤ 420 := by omega
    have b2 : 0 + 7 ≤ 7 := by omega
    have b3 : 0 < 7 := by omega
    have c7 : gi 0 7 = True := eq_true ((n_gi (a := 0) (n := 7) (by decide)).mpr b3)
    simp (disch := omega) only [k3, hx, n_gi, n_cl, ha60, ↓reduceIte, lt_k, i_7, n_mul, i_0, n_gcp, b1, b2, b3, and_self, hsL]
    rw [bq_e hTR, ← hρ12]
  rcases k9 with ⟨x1, x2, hk7, hwW, ht2, hlate⟩ | ⟨c, x1, x2, x3, hwW⟩
  · have hAs : dA d s < s := hW.a k1 (by rw [hk7]; decide)
    have hAn : dA d s < dN d := Nat.lt_trans hAs k1
    obtain ⟨o1, o2, o3, hop⟩ := (hW.2.2.1 s k1).2.2.2.2.2.2.2.2.2.2.2.2.2 hk7
    have hS := (hW.2.2.1 s k1).2.2.2.1
    have hL := (hW.2.2.1 s k1).2.2.2.2.1
    have hTB : TB (dA d s) + 1000 ≤ TB s := by unfold TB; omega
    obtain ⟨hW2, hPC2, hPR2, hz2, hz32, hP2⟩ := hB.fr hE3
    have hC := hPC2.2.2.choose_spec.2.2.1 s k1
    have hR := hPR2.2.2.1 s k1
    have h455 : zI σ12 455 P s 0 = nI (dS d s) := hC.2.2.2.2.2.2.2.2.1 (Or.inr (by omega))
    have h1799 : zI ρ12 1799 g 0 s = nI (dS d s) := hR.2.2.2.2.2.2.2.2.1 (Or.inr (by omega))
    have h456 : zI σ12 456 P s 0 = nI (dL d s) := hC.2.2.2.2.2.2.2.2.2.1 hk7
    obtain ⟨sn1, sn2, sn3, _⟩ := hE3.2.2.2.2.1 s k1
    have g384 : zI σ12 384 0 0 0 = nI t := by rw [hσ12, hσ4]; rfl
    obtain ⟨b, hb⟩ : ∃ b, b = t / dS d s * dS d s := ⟨_, rfl⟩
    have hb2 : b ≤ t := by rw [hb]; exact Nat.div_mul_le_self _ _
    have e3 : upx X 5 0 (X 5 0 - 1) 3 s = X 3 s := rfl
    have hX3 : ¬ upx X 5 0 (X 5 0 - 1) 3 s ≤ b + dS d s := by rw [e3, hb]; omega
    have hEn := ent_C (x2 := 1) (X := upx X 5 0 (X 5 0 - 1)) hs12 hz2 h455 (by omega) hS g384 (by omega) hb hb2 sn1 sn3 h456 hL
    rw [if_neg (by decide), if_neg hX3] at hEn
    have l0 : zJ ρ12 1919 0 0 0 = lN t := by
      rw [hρ12, hρ1]; exact hl0
    have hbe : fX14_beginOf (nI s) (lN t) ρ12 = some (nI b, ρ12) := by
      unfold fX14_beginOf
      have eB : (lN t / (nI (dS d s)).toInt64 * (nI (dS d s)).toInt64).toInt32 = nI b := by rw [beg_R (by omega) (by omega) (by omega), hb]
      have c3 : ¬ (nI (dS d s)).toInt64 = 0 := by rw [n_i64 (by omega)]; exact lN_ne0 (by omega) (by omega)
      simp (disch := omega) only [hz32, h1799, n_gi, n_cl, hs12, c3, eB, not_false_eq_true, ↓reduceIte]
    have hrow : RowR 0 0 σ12 1919 0 0 0 (dW d (dA d s)) ρ12 := by
      refine ⟨⟨t, by omega, g384, l0⟩, fun c hc => ?_⟩
      rw [Nat.zero_add, hσ12, hσ4, hρ12, hρ1]
      exact hlc c (by omega)
    have hA6 := hW.w6 hAn
    have h12 : upx X 5 0 (X 5 0 - 1) 12 0 = 0 := hG3.1
    have r9 := (hG3.2 s k1 (by rw [hk7]; decide)).2.2.2.2.2.1
    have r1 := (hG3.2 s k1 (by rw [hk7]; decide)).2.2.1
    have r8 := (hG3.2 s k1 (by rw [hk7]; decide)).2.2.2.2.2.2.2.2
    have a200 := (hE3.2.2.2.1 (dA d s) hAn).1
    have hCl' := hCl (-nI 1) (by rw [hσ4]; exact x1)
    rw [if_pos (show (-nI 1 : Int32) = -1 from rfl), hEn] at hCl'
    have hLw' := hLw (-nI 1) x2
    rw [if_pos (show (-nI 1 : Int32) = -1 from rfl), l0, bq_e hbe] at hLw'
    rcases r_enter90 (x1 := nI s) (x2 := 1) (b := b) (cl := 1) (n2 := 7) (c2 := 1919) (off := 0) hB hE3 k1 hk7 h12 (by omega) (Or.inr rfl) (by decide) (by omega) hrow (by omega) (by decide) with ⟨u1, u2⟩ | ⟨w1, σ', ρ', X', u1, u2, u3, u4, u5⟩
    · obtain ⟨_, σ9, _, ρ9, v1, v2, X9, v3, v4, v5⟩ := w2_ex (r_steps hB hE3.lost hE (hG3.up (Nat.le_succ E)))
      refine ⟨_, σ9, ρ9, X9, ?_, v1, ?_, v3, v4, v5⟩
      · rw [hCl', bq_e (by exact u1), if_pos rfl]
      · rw [hLw', bq_e (by exact u2), if_pos (show (-nI 1 : Int32) = -1 from rfl), lt_k, bq_e v2]
    · obtain ⟨σ1, ρ2, t1, q1, q2, q3, q4, q5, q6⟩ := r_wrow hB u3 k1 hk7 u5.2.1 u4
      obtain ⟨σ2, ρ3, X2, g1, g2, g3, g4, _⟩ := r_giveK hB q4 k1 q5 q6 (Or.inr (Or.inl rfl))
      have hG2 : Good d (E + 1) X2 := by
        refine hG3.mono1 ((g4.e (by decide) (by decide)).trans (u5.2.1.trans h12.symm)) (fun k i q => (g4.e (by omega) (by omega)).trans (u5.1 k i (by omega) (by omega) (by omega))) (fun i => ?_) (fun i => ?_)
        · rw [← u5.1 0 i (by decide) (by omega) (by omega)]; exact g4.m
        · rw [g4.e (by decide) (by decide)]
          by_cases qi : i = s
          · subst qi; exact u5.2.2.1
          · rw [u5.1 9 i (by decide) (by omega) (by omega)]; exact Nat.le_succ _
      obtain ⟨_, σ9, _, ρ9, v1, v2, X9, v3, v4, v5⟩ := w2_ex (r_steps hB g3 hE hG2)
      refine ⟨σ2, σ9, ρ9, X9, ?_, v1, ?_, v3, v4, v5⟩
      · rw [hCl', show fX1_enterWindow_90 (nI s) 1 P s (nI (b + dS d s)) 1 σ12 = _ from u1]
        unfold fX1_enterWindow_233
        rw [bq_e q1, if_neg (show ¬ (nI 1 : Int32) = 0 by decide), bq_e rfl, if_neg (show ¬ (1 : Int32) = 0 by decide), bq_e g1]
      · have hX4 := (u3.2.2.2.2.2.1 s k1).1
        rw [hLw', bq_e (by exact u2), if_neg (n_mx (a := w1) (by omega)), q2, g2]
        show bq (fX14_doSteps ρ3) _ = _
        rw [bq_e v2]
  · have hCl' := hCl (nI c) (by rw [hσ4]; exact x2)
    have hc8 := hW.2.1
    rw [if_neg (n_mx (a := c) (by omega))] at hCl'
    have hLw' := hLw (nI c) x3
    rw [if_neg (n_mx (a := c) (by omega)), bq_e load_L] at hLw'
    have hE4 : ER P d σ0 ρ0 True (upx X 5 0 (X 5 0 - 1)) σ12 (loadR ρ12 1919 0) := hE3.k57
    have hRW : RW 0 0 t (dW d s) σ12 (loadR ρ12 1919 0) := by
      refine ⟨?_, ?_, ?_, fun i hi => ?_⟩
      · rw [hσ12, hσ4]; rfl
      · rw [hσ12, hσ4, ← hwW]; rfl
      · rw [load_0, hρ12, hρ1]; exact hl0
      · rw [load_i (by omega), Nat.zero_add, hσ12, hσ4, hρ12, hρ1]
        exact hlc i (by omega)
    obtain ⟨_, σ2, _, ρ2, g1, g2, X2, g3, g4⟩ := w2_ex (r_accept hB hE4 k1 hRW k4)
    have hG2 : Good d (E + 1) X2 := by
      refine hG3.mono1 (g4.e (by decide) (by decide)) (fun k i q => g4.e (by omega) (by omega)) (fun i => g4.m) (fun i => ?_)
      rw [g4.e (by decide) (by decide)]; exact Nat.le_succ _
    obtain ⟨_, σ9, _, ρ9, v1, v2, X9, v3, v4, v5⟩ := w2_ex (r_steps hB g3 hE hG2)
    refine ⟨σ2, σ9, ρ9, X9, ?_, v1, ?_, v3, v4, v5⟩
    · rw [hCl', bq_e g1]
    · rw [hLw', bq_e g2, bq_e v2]
end RL
