/-! ITEMS, both: a stream that is done -/
def PCn (S n K w WA A B Sp La Y Z : Nat) (P : Nat → Nat) (nm : Int64) (o : Nat → List Op) (L : Nat) (σ : Zs) : Prop :=
  zJ σ 448 S n 0 = nm ∧ zI σ 449 S n 0 = nI K ∧ zI σ 1476 S n 0 = (if K = 0 then -1 else nI A) ∧ zI σ 1476 S n 1 = (if K = 4 ∨ K = 5 then nI B else -1)
  ∧ (5 ≤ K → zI σ 453 S n 0 = nI Y) ∧ (K = 5 → zI σ 454 S n 0 = nI Z) ∧ (K = 0 ∨ 5 ≤ K → zI σ 455 S n 0 = nI Sp) ∧ (K = 7 → zI σ 456 S n 0 = nI La)
  ∧ (K = 3 → ∀ c, c < w → zI σ 1483 S n c = nI (P c)) ∧ (K = 7 → ∀ c, 2 ≤ c → c < w → zI σ 1483 S n c = nI (128 + P c))
  ∧ (∀ c, (K = 1 ∧ c = 0) ∨ (K = 2 ∧ WA ≤ c ∧ c < w) ∨ (K = 7 ∧ 2 ≤ c ∧ c < w ∧ P c ≠ 23) → ∃ a, zI σ 1481 S n c = nI a ∧ zI σ 1482 S n c = nI (a + (o c).length) ∧ a + (o c).length ≤ L ∧ Cg S σ a (o c))
def PRn (g n K w WA A B Sp La Y Z : Nat) (P : Nat → Nat) (o : Nat → List Op) (z : Nat) (ρ : Zs) : Prop :=
  zI ρ 1794 g 0 n = nI K ∧ zI ρ 1797 g 0 n = (if K = 0 then -1 else nI A) ∧ zI ρ 1798 g 0 n = (if K = 4 ∨ K = 5 then nI B else -1)
  ∧ (5 ≤ K → zI ρ 1801 g 0 n = nI Y) ∧ (K = 5 → zI ρ 1802 g 0 n = nI Z) ∧ (K = 0 ∨ 5 ≤ K → zI ρ 1799 g 0 n = nI Sp) ∧ (K = 7 → zI ρ 1800 g 0 n = nI La)
  ∧ (K = 3 → ∀ c, c < w → zI ρ 1937 0 0 c = nI (P c)) ∧ (K = 7 → ∀ c, 2 ≤ c → c < w → zI ρ 1938 0 0 c = nI (P c))
  ∧ (K = 1 → ∃ a, zI ρ 1799 g 0 n = nI a ∧ a + (o 0).length < z ∧ Rg g ρ a (o 0))
  ∧ (∀ c, (K = 2 ∧ WA ≤ c ∧ c < w) ∨ (K = 7 ∧ 2 ≤ c ∧ c < w ∧ P c ≠ 23) → ∃ a, zI ρ 1937 0 0 c = nI a ∧ a + (o c).length < z ∧ Rg g ρ a (o c))
def WFn (d : Pd) (K w A B Sp La Y Z : Nat) (P : Nat → Nat) (o : Nat → List Op) : Prop := K ≤ 7 ∧ 1 ≤ w ∧ w ≤ 6 ∧ Sp ≤ 1000 ∧ La ≤ 1000 ∧ (K ≠ 0 → A < dN d) ∧ (K = 4 ∨ K = 5 → B < dN d)
  ∧ (K = 1 → w = dW d A ∧ okO (dW d A) (o 0))
  ∧ (K = 2 → dW d A ≤ w ∧ ∀ c, dW d A ≤ c → c < w → okO (dW d A) (o c))
  ∧ (K = 3 → ∀ c, c < w → P c < dW d A)
  ∧ (K = 4 → w = dW d A ∧ w = dW d B)
  ∧ (K = 5 → Y < dW d A ∧ Z < dW d B ∧ w + 1 = dW d A + dW d B)
  ∧ (K = 6 → Y < dW d A ∧ w = dW d A)
  ∧ (K = 7 → Y < dW d A ∧ 1 ≤ Sp ∧ 2 ≤ w ∧ ∀ c, 2 ≤ c → c < w → 22 ≤ P c ∧ P c ≤ 26 ∧ (P c ≠ 23 → okO (dW d A) (o c)))
section SD
variable {x : Cx} {t : Nat} {σ ρ : Zs} {d : Pd}
theorem s_new (hc : Cok x) {L z L2 z2 K w A B Sp La Y Z : Nat} {P : Nat → Nat} {nm : Int64} {cn : Nat → Int64} {o : Nat → List Op} {σb ρb : Zs} {p : Int32} (m : qM x = 1) (hG : GoodD d) (hn : dN d < 12) (hO : OLD x d L z σb ρb)
    (h192 : zI σ 192 0 0 0 = 0) (h195 : zR σ 195 0 0 0 = (qS x, dN d)) (hC : IFC (qS x) (dN d) (dM d) L σb σ) (hR : IFL (qG x) (dN d) z ρb ρ) (hL : L ≤ L2) (hL2 : L2 ≤ t) (hz : z ≤ z2) (hz2 : z2 ≤ 2 * t) (h326 : zI σ 326 (qS x) 0 0 = nI L2) (h785 : zI ρ 785 (qG x) 0 0 = nI z2)
    (h201 : zI σ 201 0 0 0 = nI w) (h911 : zI ρ 911 0 0 0 = nI w) (hnm : ∀ c, c < w → zJ σ 1224 0 0 c = cn c ∧ zJ ρ 1936 0 0 c = cn c) (hdis : ∀ i j, i < w → j < w → cn i = cn j → i = j) (hst : St (qS x) 0 (qC x) σ) (hlf : LFr x ρ)
    (hA : A < dN d ∨ 50 ≤ A) (hB : B < dN d ∨ 50 ≤ B) (hPC : PCn (qS x) (dN d) K w (dW d A) A B Sp La Y Z P nm o L2 σ) (hPR : PRn (qG x) (dN d) K w (dW d A) A B Sp La Y Z P o z2 ρ) (hWF : WFn d K w A B Sp La Y Z P o) (hN1 : isName nm) (hN2 : ∀ s, s < dN d → dNm d s ≠ nm) :
    ∃ σ' ρ', fX3_endStream_63 σ = some ((), σ') ∧ fX14_item_221 nm p (nI (dN d)) 1 ρ = some (.ok (), ρ') ∧ MIx x (dPut d K w A B Sp La Y Z P nm cn o) t σ' ρ' ∧ LFr x ρ' ∧ zI ρ' 905 0 0 0 = zI ρ 905 0 0 0 ∧ zI ρ' 907 0 0 0 = zI ρ 907 0 0 0 ∧ zI ρ' 908 0 0 0 = zI ρ 908 0 0 0 := by
  obtain ⟨hWd, hNm, hCD, hIN⟩ := hG
  have hO2 := hO.fr hC hR hL hz
  obtain ⟨o1, o2, o3, o4, o5, o6, o7, o8⟩ := hO2
  obtain ⟨f1, f2, f3, f4, f5, f6, f7, f8, f9, f10, f11, f12, f13, f14⟩ := id hWF
  have hnA : ¬ A = dN d := by omega
  have hnB : ¬ B = dN d := by omega
  obtain ⟨σ', c1, c2, c3, c4, c5, c6, c7⟩ := s_endC h192 h201 h195 hst.2.1.1 o1 f3
  obtain ⟨ρ', l1, l2, l3, l4, l5, l6, l7, l8⟩ := s_endL (nm := nm) (p := p) (show zI ρ 906 0 0 0 = nI 1 by rw [hc.m hlf, m]) (hc.g hlf) h911 o3 hn f3 (by omega)
  refine ⟨σ', ρ', c1, l1, ?_, ?_, l2 _ _ _ _ (by omega) (by omega) (by omega), l2 _ _ _ _ (by omega) (by omega) (by omega), l2 _ _ _ _ (by omega) (by omega) (by omega)⟩
  · -- cells that the ends don't touch
    have eI : ∀ c q s i, c ≠ 450 → c ≠ 321 → zI σ' c q s i = zI σ c q s i := fun c q s i n1 n2 => c2 c q s i (fun e => n1 e.1) (fun e => n2 e.1)
    have eJ : ∀ c q s i, c ≠ 1475 → zJ σ' c q s i = zJ σ c q s i := fun c q s i n1 => c3 c q s i (fun e => n1 e.1)
    have rI : ∀ c q s i, c ≠ 1795 → c ≠ 768 → c ≠ 1803 → c ≠ 1804 → zI ρ' c q s i = zI ρ c q s i := fun c q s i n1 n2 n3 n4 => l2 c q s i (fun e => n1 e.1) (fun e => n2 e.1) (fun e => e.1.elim n3 n4)
    have rJ : ∀ c q s i, c ≠ 1793 → c ≠ 1796 → zJ ρ' c q s i = zJ ρ c q s i := fun c q s i n1 n2 => l3 c q s i (fun e => n1 e.1) (fun e => n2 e.1)
    have cg : ∀ a l, Cg (qS x) σ a l → Cg (qS x) σ' a l := fun a l h j hj => by
      rw [eI 1348 _ _ _ (by decide) (by decide), eJ 1349 _ _ _ (by decide)]; exact h j hj
    have rg : ∀ a l, Rg (qG x) ρ a l → Rg (qG x) ρ' a l := fun a l h => ⟨fun j hj => by
      rw [rI 1810 _ _ _ (by decide) (by decide) (by decide) (by decide), rJ 1811 _ _ _ (by decide) (by decide)]; exact h.1 j hj, by
      rw [rI 1810 _ _ _ (by decide) (by decide) (by decide) (by decide)]; exact h.2⟩
    refine ⟨(eI 192 _ _ _ (by decide) (by decide)).trans h192, ⟨⟨by rw [dp_N]; omega, by rw [dp_M]; exact hWd.2.1, fun s hs => ?_, fun c hcc => ?_⟩, fun s hs => ?_, fun s hs c e hcw hew => ?_, fun s hs => ?_⟩, L2, z2, hL2, hz2, (eI 326 _ _ _ (by decide) (by decide)).trans h326, (rI 785 _ _ _ (by decide) (by decide) (by decide) (by decide)).trans h785, ?_⟩
    · rw [dp_N] at hs
      by_cases q : s = dN d
      · subst q
        unfold WFs
        simp only [dp_K, dp_W, dp_A, dp_B, dp_S, dp_L, dp_Y, dp_Z, dp_P, dp_O, if_pos, if_neg hnA, if_neg hnB]
        exact hWF
      · have h' := hIN s (by omega)
        exact (hWd.2.2.1 s (by omega)).put (by omega) (by omega) (by omega)
    · rw [dp_M] at hcc
      obtain ⟨w1, w2, w3, w4⟩ := hWd.2.2.2 c hcc
      rw [dp_CS, dp_CF, dp_CO hn, dp_N, dp_W, if_neg (by omega)]
      exact ⟨by omega, w2, w3, w4⟩
    · rw [dp_N] at hs
      rw [dp_Nm]
      by_cases q : s = dN d
      · rw [if_pos q]
        refine ⟨hN1, fun t ht e => ?_⟩
        rw [dp_N] at ht
        rw [dp_Nm] at e
        by_cases q2 : t = dN d
        · omega
        · rw [if_neg q2] at e; exact absurd e.symm (hN2 t (by omega))
      · rw [if_neg q]
        refine ⟨(hNm s (by omega)).1, fun t ht e => ?_⟩
        rw [dp_N] at ht
        rw [dp_Nm] at e
        by_cases q2 : t = dN d
        · rw [if_pos q2] at e; exact absurd e (hN2 s (by omega))
        · rw [if_neg q2] at e; exact (hNm s (by omega)).2 t (by omega) e
    · rw [dp_N] at hs
      rw [dp_W] at hcw hew
      rw [dp_Cn, dp_Cn]
      by_cases q : s = dN d
      · rw [if_pos q] at hcw hew
        rw [if_pos q, if_pos q]
        exact hdis c e hcw hew
      · rw [if_neg q] at hcw hew
        rw [if_neg q, if_neg q]
        exact hCD s (by omega) c e hcw hew
    · rw [dp_N] at hs ⊢
      rw [dp_A, dp_B]
      by_cases q : s = dN d
      · rw [if_pos q, if_pos q]; omega
      · rw [if_neg q, if_neg q]
        have := hIN s (by omega)
        omega
    · refine ⟨?_, ?_, ?_, ?_, fun s hs => ?_, fun c hcc => ?_, fun s hs => ?_, fun c hcc => ?_⟩
      · rw [dp_N]; exact c6
      · rw [dp_M, eI 323 _ _ _ (by decide) (by decide)]; exact o2
      · rw [dp_N]; exact l6
      · rw [dp_M, rI 781 _ _ _ (by decide) (by decide) (by decide) (by decide)]; exact o4
      · rw [dp_N] at hs
        by_cases q : s = dN d
        · subst q
          obtain ⟨p1, p2, p3, p4, p5, p6, p7, p8, p9, p10, p11⟩ := hPC
          unfold PCs
          simp only [dp_K, dp_W, dp_A, dp_B, dp_S, dp_L, dp_Y, dp_Z, dp_P, dp_Nm, dp_Cn, dp_O, if_pos, if_neg hnA]
          refine ⟨(eJ 448 _ _ _ (by decide)).trans p1, (eI 449 _ _ _ (by decide) (by decide)).trans p2, c5, fun c hcw => (c7 c hcw).trans (hnm c hcw).1, (eI 1476 _ _ _ (by decide) (by decide)).trans p3, (eI 1476 _ _ _ (by decide) (by decide)).trans p4, fun q => (eI 453 _ _ _ (by decide) (by decide)).trans (p5 q), fun q => (eI 454 _ _ _ (by decide) (by decide)).trans (p6 q), fun q => (eI 455 _ _ _ (by decide) (by decide)).trans (p7 q), fun q => (eI 456 _ _ _ (by decide) (by decide)).trans (p8 q), fun q c hcw => (eI 1483 _ _ _ (by decide) (by decide)).trans (p9 q c hcw), fun q c h2 hcw => (eI 1483 _ _ _ (by decide) (by decide)).trans (p10 q c h2 hcw), fun c q => ?_⟩
          obtain ⟨a, a1, a2, a3, a4⟩ := p11 c q
          exact ⟨a, (eI 1481 _ _ _ (by decide) (by decide)).trans a1, (eI 1482 _ _ _ (by decide) (by decide)).trans a2, a3, cg _ _ a4⟩
        · have h' := hIN s (by omega)
          refine PCs.put ?_ (by omega) (by omega)
          obtain ⟨p1, p2, p3, p4, p5, p6, p7, p8, p9, p10, p11, p12, p13⟩ := o5 s (by omega)
          refine ⟨(eJ 448 _ _ _ (by decide)).trans p1, (eI 449 _ _ _ (by decide) (by decide)).trans p2, (c2 450 _ s 0 (fun e => q e.2.2) (by omega)).trans p3, fun c hcw => (c3 1475 _ s c (fun e => q e.2.2)).trans (p4 c hcw), (eI 1476 _ _ _ (by decide) (by decide)).trans p5, (eI 1476 _ _ _ (by decide) (by decide)).trans p6, fun q => (eI 453 _ _ _ (by decide) (by decide)).trans (p7 q), fun q => (eI 454 _ _ _ (by decide) (by decide)).trans (p8 q), fun q => (eI 455 _ _ _ (by decide) (by decide)).trans (p9 q), fun q => (eI 456 _ _ _ (by decide) (by decide)).trans (p10 q), fun q c hcw => (eI 1483 _ _ _ (by decide) (by decide)).trans (p11 q c hcw), fun q c h2 hcw => (eI 1483 _ _ _ (by decide) (by decide)).trans (p12 q c h2 hcw), fun c q => ?_⟩
          obtain ⟨a, a1, a2, a3, a4⟩ := p13 c q
          exact ⟨a, (eI 1481 _ _ _ (by decide) (by decide)).trans a1, (eI 1482 _ _ _ (by decide) (by decide)).trans a2, a3, cg _ _ a4⟩
      · rw [dp_M] at hcc
        refine PCc.put ?_ hn
        obtain ⟨p1, p2, a, a1, a2, a3, a4⟩ := o6 c hcc
        exact ⟨(eI 0 _ _ _ (by decide) (by decide)).trans p1, (eI 1 _ _ _ (by decide) (by decide)).trans p2, a, (eI 2 _ _ _ (by decide) (by decide)).trans a1, (eI 3 _ _ _ (by decide) (by decide)).trans a2, a3, cg _ _ a4⟩
      · rw [dp_N] at hs
        by_cases q : s = dN d
        · subst q
          obtain ⟨p1, p2, p3, p4, p5, p6, p7, p8, p9, p10, p11⟩ := hPR
          unfold PRsz
          simp only [dp_K, dp_W, dp_A, dp_B, dp_S, dp_L, dp_Y, dp_Z, dp_P, dp_Nm, dp_Cn, dp_O, if_pos, if_neg hnA]
          refine ⟨l7, (rI 1794 _ _ _ (by decide) (by decide) (by decide) (by decide)).trans p1, l5, fun c hcw => ((l8 c hcw).1).trans (hnm c hcw).2, (rI 1797 _ _ _ (by decide) (by decide) (by decide) (by decide)).trans p2, (rI 1798 _ _ _ (by decide) (by decide) (by decide) (by decide)).trans p3, fun q => (rI 1801 _ _ _ (by decide) (by decide) (by decide) (by decide)).trans (p4 q), fun q => (rI 1802 _ _ _ (by decide) (by decide) (by decide) (by decide)).trans (p5 q), fun q => (rI 1799 _ _ _ (by decide) (by decide) (by decide) (by decide)).trans (p6 q), fun q => (rI 1800 _ _ _ (by decide) (by decide) (by decide) (by decide)).trans (p7 q), fun q c hcw => ((l8 c hcw).2.1).trans (p8 q c hcw), fun q c h2 hcw => ((l8 c hcw).2.2).trans (p9 q c h2 hcw), fun q => ?_, fun c q => ?_⟩
          · obtain ⟨a, a1, a2, a3⟩ := p10 q
            exact ⟨a, (rI 1799 _ _ _ (by decide) (by decide) (by decide) (by decide)).trans a1, a2, rg _ _ a3⟩
          · obtain ⟨a, a1, a2, a3⟩ := p11 c q
            have hcw : c < w := by omega
            exact ⟨a, ((l8 c hcw).2.1).trans a1, a2, rg _ _ a3⟩
        · have h' := hIN s (by omega)
          have hw6 := hWd.w6 (s := s) (by omega)
          refine PRsz.put ?_ (by omega) (by omega)
          obtain ⟨p1, p2, p3, p4, p5, p6, p7, p8, p9, p10, p11, p12, p13, p14⟩ := o7 s (by omega)
          refine ⟨(l3 1793 _ _ _ (by omega) (by omega)).trans p1, (rI 1794 _ _ _ (by decide) (by decide) (by decide) (by decide)).trans p2, (l2 1795 _ _ _ (by omega) (by omega) (by omega)).trans p3, fun c hcw => (l3 1796 _ _ _ (by omega) (by omega)).trans (p4 c hcw), (rI 1797 _ _ _ (by decide) (by decide) (by decide) (by decide)).trans p5, (rI 1798 _ _ _ (by decide) (by decide) (by decide) (by decide)).trans p6, fun q => (rI 1801 _ _ _ (by decide) (by decide) (by decide) (by decide)).trans (p7 q), fun q => (rI 1802 _ _ _ (by decide) (by decide) (by decide) (by decide)).trans (p8 q), fun q => (rI 1799 _ _ _ (by decide) (by decide) (by decide) (by decide)).trans (p9 q), fun q => (rI 1800 _ _ _ (by decide) (by decide) (by decide) (by decide)).trans (p10 q), fun q c hcw => (l2 1803 _ _ _ (by omega) (by omega) (by omega)).trans (p11 q c hcw), fun q c h2 hcw => (l2 1804 _ _ _ (by omega) (by omega) (by omega)).trans (p12 q c h2 hcw), fun q => ?_, fun c q => ?_⟩
          · obtain ⟨a, a1, a2, a3⟩ := p13 q
            exact ⟨a, (rI 1799 _ _ _ (by decide) (by decide) (by decide) (by decide)).trans a1, a2, rg _ _ a3⟩
          · obtain ⟨a, a1, a2, a3⟩ := p14 c q
            have hcw : c < dW d s := by
              rcases q with q | q
              · exact q.2.2
              · exact q.2.2.1
            have hne : ¬ (6 * dN d ≤ 6 * s + c ∧ 6 * s + c < 6 * dN d + 6) := by clear q a1 a2; omega
            exact ⟨a, (l2 1803 (qG x) 0 (6 * s + c) (fun e => absurd e.1 (by decide)) (fun e => absurd e.1 (by decide)) (fun e => hne e.2.2.2)).trans a1, a2, rg _ _ a3⟩
      · rw [dp_M] at hcc
        refine PRcz.put ?_ hn
        obtain ⟨p1, p2, a, a1, a2, a3⟩ := o8 c hcc
        exact ⟨(rI 1806 _ _ _ (by decide) (by decide) (by decide) (by decide)).trans p1, (rI 1808 _ _ _ (by decide) (by decide) (by decide) (by decide)).trans p2, a, (rI 1807 _ _ _ (by decide) (by decide) (by decide) (by decide)).trans a1, a2, rg _ _ a3⟩
  · intro c q hw s i
    have nz : ¬ c = 1795 ∨ ¬ q = qG x := by
      rcases Nat.eq_or_lt_of_le (Nat.zero_le 0) with _ | h
      · by_cases q1 : c = 1795
        · refine Or.inr (fun q2 => ?_); subst q1 q2; rw [wlG rfl] at hw; cases hw
        · exact Or.inl q1
      · omega
    have no : ∀ f, [768, 781, 1793, 1794, 1795, 1796, 1797, 1798, 1799, 1800, 1801, 1802, 1803, 1804, 1806, 1807, 1808, 1810, 1811].contains f = true → ¬ (c = f ∧ q = qG x) := fun f hf e => by
      rw [e.1, e.2, wlG hf] at hw; cases hw
    obtain ⟨b1, b2, b3⟩ := hlf c q hw s i
    refine ⟨(l2 c q s i (fun e => no 1795 rfl ⟨e.1, e.2.1⟩) (fun e => no 768 rfl ⟨e.1, e.2.1⟩) (fun e => e.1.elim (fun z => no 1803 rfl ⟨z, e.2.1⟩) (fun z => no 1804 rfl ⟨z, e.2.1⟩))).trans b1, (l3 c q s i (fun e => no 1793 rfl ⟨e.1, e.2.1⟩) (fun e => no 1796 rfl ⟨e.1, e.2.1⟩)).trans b2, ?_⟩
    rw [l4]; exact b3
end SD
