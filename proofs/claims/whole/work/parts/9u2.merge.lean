/-! ITEMS, both: merge, whole -/
section MG
variable {x : Cx} {t : Nat} {σ ρ : Zs} {d : Pd}
theorem bw_as2 {α β γ : Type} {r : Option (Except (Int32 × Int32) α × Zs)} {f : α → Zs → Option (Except (Int32 × Int32) β × Zs)} {g : β → Zs → Option (Except (Int32 × Int32) γ × Zs)} : bw (bw r f) g = bw r fun a z => bw (f a z) g := by
  rcases r with _ | ⟨_ | _, _⟩ <;> rfl
theorem bq_bw {α β γ : Type} {r : Option (α × Zs)} {f : α → Zs → Option (Except (Int32 × Int32) β × Zs)} {g : β → Zs → Option (Except (Int32 × Int32) γ × Zs)} : bw (bq r f) g = bq r fun a z => bw (f a z) g := by
  rcases r with _ | ⟨_, _⟩ <;> rfl
theorem SW2.lI {L z np K A B wp bp : Nat} {nm : Int64} {σb ρb : Zs} {c q s i : Nat} {v : Int32} (h : SW2 x d L z σb ρb nm np K A B wp bp t σ ρ) (hw : qM x = 1 → wJ (qG x) (dN d) c q i = true) (hn : [785, 1810, 768, 781, 1795, 911, 1794, 1797].contains c = false) : SW2 x d L z σb ρb nm np K A B wp bp t σ (sI ρ c q s i v) := by
  simp only [List.contains_cons, List.contains_nil, Bool.or_false, Bool.or_eq_false_iff, beq_eq_false_iff_ne] at hn
  obtain ⟨n1, n2, n3, n4, n5, n6, n7, n8⟩ := hn
  refine ⟨fun m => ⟨(h.1 m).1.I ⟨n3, n4, n5⟩, (sI_c (fun z => n6 z.symm)).trans (h.1 m).2.1, (h.1 m).2.2⟩, fun m => ?_⟩
  obtain ⟨d1, d2, d3, d4, d5, d6, d7, d8, d9, d10, d11, d12, d13, d14, d15, d16, d17, d18⟩ := h.2 m
  exact ⟨d1, d2.lI (hw m) ⟨n1, n2⟩, d3, d4, d5, d6, d7, d8, d9, d10, d11, d12, d13, (sI_c (fun z => n7 z.symm)).trans d14, (sI_c (fun z => n8 z.symm)).trans d15, (sI_c (fun z => n6 z.symm)).trans d16, d17, d18⟩
/-- an error of meaning at a stream's end -/
theorem end_e {e : Int32 × Int32} (h : Er x 0 e σ ρ) : Wp1 (fX3_endStream_63 σ) fun _ z => Er0 x e z ρ := h.go0 fun h => k_es63 h
theorem x_merge (hc : Cok x) {L z np A wp : Nat} {nm : Int64} {σb ρb : Zs} (h : IP x 0 t σ ρ) (hD : SWK x d L z σb ρb nm np 4 A wp t σ ρ) : SM (Er0 x) (bq (fX4_secondInput σ) fun _ z => cEnd z) (bw (lMerge (nI (sIdx x d)) (nI wp) (nI A) ρ) fun _ ρ => lEnd nm (nI np) (nI (sIdx x d)) ρ) (fun _ σ' _ ρ' => ∃ t' d', t ≤ t' ∧ ITm x d' t' σ' ρ') := by
  have hs12 : sIdx x d < 12 := sIdx12 hc fun m => (hD.2 m).1
  unfold lMerge fX4_secondInput
  rw [bq_as, bw_as2]
  refine sm_b (s_take hc h (K := 102) rfl (by decide) (show ck 102 = 44 from rfl)) (fun _ σ2 _ ρ2 q => ?_) (fun _ _ _ _ g => g.go0 fun h => kb (kb (k_takeName h (by omega) (Or.inr rfl)) fun _ _ h => h) fun _ _ h => kb0 (k_endStream h) fun _ _ h => h)
  obtain ⟨q1, q2, ⟨ka, kp, kw, q3⟩, q4⟩ := q
  have D2 : SWK x d L z σb ρb nm np 4 A wp (t + 1) σ2 ρ2 := by rw [q3, q4]; exact hD.av (Nat.le_succ t)
  have r2 : (zR ρ2 909 0 0 0).2 = 0 := by rw [hc.g q2.2.1]
  have r1 : (zR ρ2 909 0 0 0).1 = qG x := by rw [hc.g q2.2.1]
  rw [if_pos r2, bq_as, bw_as2]
  refine sm_b (s_second hc (Or.inl rfl) q2 D2) (fun _ σ3 w ρ3 g => ?_) (fun _ _ _ _ g => g.go0 fun h => by rw [bq_s]; exact kb0 (k_endStream h) fun _ _ h => h)
  obtain ⟨B, rfl, g2, D3⟩ := g
  rw [bq_s]
  obtain ⟨ρ4, hρ4⟩ : ∃ y, y = sI ρ3 1798 (qG x) 0 (sIdx x d) (nI B) := ⟨_, rfl⟩
  have hI4 : IP x 0 (t + 1 + 1) σ3 ρ4 := by rw [hρ4]; exact g2.lw (g2.2.1.I (wlG rfl)) rfl rfl rfl
  have D4 : SW2 x d L z σb ρb nm np 4 A B wp (qp x (t + 1)) (t + 1 + 1) σ3 ρ4 := by rw [hρ4]; exact D3.lI (sIdx_w rfl) rfl
  rcases m01 hc with m | m
  · obtain ⟨e1, e2, e3, e4⟩ := D3.1 m
    subst e3 e4
    have e95 : zI ρ3 1795 (qG x) 0 0 = nI 0 := e1.2.2
    rw [lm_2 hc g2.2.1 hs12 (by decide) (by decide) e95 e95 hρ4 r1, if_pos rfl]
    have r42 : (zR ρ4 909 0 0 0).2 = 0 := by rw [hc.g hI4.2.1]
    have r41 : (zR ρ4 909 0 0 0).1 = qG x := by rw [hc.g hI4.2.1]
    have f95 : zI ρ4 1795 (qG x) 0 (Int32.toNatClampNeg (nI 0)) = nI 0 := (D4.1 m).1.2.2
    have e333 : fX14_work_333 (nI (sIdx x d)) FU (nI wp) (nI 0) 1 0 ρ4 = some (.ok (), ρ4) := by
      rw [show FU = 19999 + 1 from rfl, fX14_work_333, if_pos r42, if_pos (show gi (nI 0) 12 by decide), r41, f95, if_pos (show (nI 0 : Int32) ≤ 0 by decide), bw_e must_1, bq_e (sa_0 (by rw [hc.m hI4.2.1, m]))]
    rw [bw_e e333]
    exact sm_m (s_finN hc hI4 ⟨fun m => ⟨(D4.1 m).1, (D4.1 m).2.1⟩, fun q => by omega⟩) fun _ _ _ _ ⟨d', q⟩ => ⟨_, d', by omega, q⟩
  · obtain ⟨d1, d2, d3, d4, d5, d6, d7, d8, d9, d10, d11, d12, d13, d14, d15, d16, d17, d18⟩ := D4.2 m
    obtain ⟨cA, nA, lA, wA⟩ := (d2.old d1).col d1.1 d3
    obtain ⟨cB, nB, lB, wB⟩ := (d2.old d1).col d1.1 d4
    have x3 := (D3.2 m).2.1.old d1
    obtain ⟨xA, _, _, _⟩ := x3.col d1.1 d3
    obtain ⟨xB, _, _, _⟩ := x3.col d1.1 d4
    have hWA := cA.2.1
    have hWB := cB.2.1
    have hN := d1.1.1.1
    rw [lm_2 hc g2.2.1 hs12 cA.1 cB.1 xA.2.2.2.1 xB.2.2.2.1 hρ4 r1]
    have y1 : (zR σ3 195 0 0 0).1 = qS x := by rw [d2.2.2.1]
    have y2 : (zR σ3 195 0 0 0).2 = dN d := by rw [d2.2.2.1]
    have y3 : (zR σ3 198 0 0 0).1 = qS x := by rw [d12]
    have y4 : (zR σ3 198 0 0 0).2 = A := by rw [d12]
    have y5 : (zR σ3 199 0 0 0).1 = qS x := by rw [d13]
    have y6 : (zR σ3 199 0 0 0).2 = B := by rw [d13]
    have h4 : zI σ3 449 ((zR σ3 195 0 0 0).1) ((zR σ3 195 0 0 0).2) 0 = 4 := by rw [y1, y2, d6]; rfl
    obtain ⟨v, v1, v2⟩ := hc_C (S := qS x) cA.2.2.1 cB.2.2.1 hWA hWB
    -- the columns are not the same
    have bad : v = 0 → (if nI (dW d A) = nI (dW d B) then fX14_work_333 (nI (sIdx x d)) FU (nI wp) (nI A) 1 0 ρ4 else fX14_work_333 (nI (sIdx x d)) FU (nI wp) (nI A) 0 0 ρ4) = some (.error (3, nI wp), ρ4) → SM (Er0 x) (cEnd σ3) (bw (if nI (dW d A) = nI (dW d B) then fX14_work_333 (nI (sIdx x d)) FU (nI wp) (nI A) 1 0 ρ4 else fX14_work_333 (nI (sIdx x d)) FU (nI wp) (nI A) 0 0 ρ4) fun _ ρ => lEnd nm (nI np) (nI (sIdx x d)) ρ) (fun _ σ' _ ρ' => ∃ t' d', t ≤ t' ∧ ITm x d' t' σ' ρ') := fun v0 hl => by
      rw [hl]
      obtain ⟨zz, u1, u2⟩ := rep_E (E := (0, 0, 0, 0, 0, σ3, σ3)) m hI4.1 hI4.2.1 d2.1 (a := 3) (b := nI wp) (by decide) (by decide)
      have u0 : Er x 0 (3, nI wp) zz ρ4 := u2
      have nz : ¬ zI zz 192 0 0 0 = 0 := by
        rcases u0.2.2 with ⟨e1, _⟩ | ⟨_, _, _, _, e2⟩
        · exact absurd e1 (show ¬ (3 : Int32) = 1 by decide)
        · exact e2
      have ee : fX3_endStream σ3 = fX3_endStream_63 zz := by
        unfold fX3_endStream
        rw [if_pos d2.1, if_pos h4, y3, y4, y5, y6, bq_e v1, v0, if_pos rfl, d10, bq_e u1, if_neg nz]
      unfold cEnd
      rw [ee]
      obtain ⟨⟨⟩, z2, w2, w3⟩ := wp_ex (end_e u0)
      rw [bq_e w2]
      exact sm_xw rfl w3
    by_cases qe : dW d A = dW d B
    · have hif : (if nI (dW d A) = nI (dW d B) then fX14_work_333 (nI (sIdx x d)) FU (nI wp) (nI A) 1 0 ρ4 else fX14_work_333 (nI (sIdx x d)) FU (nI wp) (nI A) 0 0 ρ4) = fX14_work_333 (nI (sIdx x d)) FU (nI wp) (nI A) 1 (nI 0) ρ4 := by rw [if_pos (by rw [qe])]; rfl
      have e98 : zI ρ4 1798 (qG x) 0 (sIdx x d) = nI B := by rw [hρ4, zI_sI, if_pos ⟨rfl, rfl, rfl, rfl⟩]
      rcases hm_L hc m hI4.2.1 (p := nI wp) hs12 cA.1 cB.1 hWA cA.2.2.2.1 e98 (dW d A) 0 FU (by omega) (by unfold FU; omega) with ⟨a1, a2⟩ | ⟨⟨c, a1, a3, a4⟩, a2⟩
      · -- the same
        have hsame : ∀ c, c < dW d A → dCn d A c = dCn d B c := fun c hcw => by
          rw [← lA c hcw, ← lB c (by omega)]; exact a1 c (Nat.zero_le _) hcw
        have v11 : v = 1 := by
          rcases v2 with ⟨e, _⟩ | ⟨_, e⟩
          · exact e
          · exact absurd ⟨qe, fun c hcw => by rw [nA c hcw, nB c (by omega)]; exact hsame c hcw⟩ e
        rw [hif, a2, bq_bw]
        obtain ⟨ρ5, u1, u2, u3, u4, u5, u6, u7, u8⟩ := s_all hc m d1 d3 d2 hI4 d16
        rw [bq_e u1, bw_e rfl]
        obtain ⟨_, _, _, _, _, L', z', f1, f2, f3, f4, f5, f6⟩ := id u7
        obtain ⟨b1, b2, b3', b4', b5⟩ := id d1
        have ee : fX3_endStream σ3 = fX3_endStream_63 σ3 := by
          unfold fX3_endStream
          rw [if_pos d2.1, if_pos h4, y3, y4, y5, y6, bq_e v1, v11, if_neg (by decide), if_pos d2.1, y1, y2, d6, if_neg (by decide)]
        rw [sIdx_1 m] at e98
        refine sm_m (s_finN hc u8 ⟨fun q => by omega, fun _ => ⟨ee, d9, dW d A, d2.1, d17, u2, by omega, fun w6 => ⟨b1, b3', L, z, L', z', 4, A, B, 0, 0, 0, 0, fun _ => 0, fun c => dCn d A c, fun _ => [], σb, ρb, b2, u7.2.2.1, u7.2.2.2.1, u7.2.2.2.2.1, f1, f3, f2, f4, f5, f6, fun c hcw => ⟨d18 c hcw, (u3 c hcw).1⟩, b1.2.2.1 A d3, Or.inl d3, Or.inl d4, ?_, ?_, ?_, b4', b5⟩⟩⟩) fun _ _ _ _ ⟨d', q⟩ => ⟨_, d', by omega, q⟩
        · refine ⟨d5, d6, ?_, ?_, fun q => by omega, fun q => by omega, fun q => by omega, fun q => by omega, fun q => by omega, fun q => by omega, fun c q => by omega⟩
          · rw [if_neg (by decide)]; exact d7
          · rw [if_pos (by decide)]; exact d8
        · refine ⟨(u4 _ _ _ _ (by decide)).trans d14, ?_, ?_, fun q => by omega, fun q => by omega, fun q => by omega, fun q => by omega, fun q => by omega, fun q => by omega, fun q => by omega, fun c q => by omega⟩
          · rw [if_neg (by decide)]; exact (u4 _ _ _ _ (by decide)).trans d15
          · rw [if_pos (by decide)]; exact (u4 _ _ _ _ (by decide)).trans e98
        · exact ⟨by decide, wA, w6, by omega, by omega, fun _ => d3, fun _ => d4, fun q => by omega, fun q => by omega, fun q => by omega, fun _ => ⟨rfl, qe⟩, fun q => by omega, fun q => by omega, fun q => by omega⟩
      · refine bad ?_ (hif.trans a2)
        rcases v2 with ⟨_, _, e⟩ | ⟨e, _⟩
        · refine absurd ?_ a4
          rw [lA c a3, lB c (by omega), ← nA c a3, ← nB c (by omega)]
          exact e c a3
        · exact e
    · refine bad ?_ ?_
      · rcases v2 with ⟨_, e, _⟩ | ⟨e, _⟩
        · exact absurd e qe
        · exact e
      · rw [if_neg (fun z => qe ((n_eq (by omega) (by omega)).mp z))]
        exact hm_0 hc m hI4.2.1 0 cA.1 cA.2.2.2.1
end MG
