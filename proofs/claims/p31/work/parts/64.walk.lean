/-! FROM A PROGRAM THAT STANDS TO THE ANSWER -/
theorem lw_all {x : Cxt} {b N lim n Mc Ms kc ks : Nat} {xs : Nat → Int32} {A : Nat → Nat → Nat → Nat} {h : Hp} {σ ρ : Zs} (hsc : scrOk x b N xs) (hN : N ≤ 65536) (hrm : m_rm 20 Mc Ms x) (hz : Rp A h σ ρ) (hS : St lim n D0 0 (FO N xs) σ) (hn : 0 < n) (hn2 : n ≤ 20) (h1 : kc + 3000 ≤ Mc) (h2 : ks + 20000 ≤ Ms) (k : ∀ (h' : Hp) (lv : List (Nat × Value)), wp x mLaw 653 lv [.int 1] h' (kc + 2600) (ks + 15000)) : wp x mLaw 85 [(3, .int (nI lim)), (2, .int (nI n)), (1, .ref (A 11 0 0)), (0, .ref b)] [] h kc ks := by
  refine w_iconst (nI 0) dL_law_85 rfl rfl ?_
  refine w_istore [(4, .int (nI 0)), (3, .int (nI lim)), (2, .int (nI n)), (1, .ref (A 11 0 0)), (0, .ref b)] dL_law_86 rfl (by decide) rfl ?_
  refine w_lconst 0 dL_law_88 rfl rfl ?_
  refine w_lstore [(5, .long 0), (4, .int (nI 0)), (3, .int (nI lim)), (2, .int (nI n)), (1, .ref (A 11 0 0)), (0, .ref b)] dL_law_89 rfl (by decide) rfl ?_
  refine w_iconst (nI 0) dL_law_91 rfl rfl ?_
  refine w_istore (lvL b (A 11 0 0) n lim 0 (smO (runD lim n (FO N xs) 0))) dL_law_92 rfl (by decide) rfl ?_
  refine lw_loop hsc hN hrm hn hn2 40 0 kc ks h σ ρ rfl hz hS (by omega) (by omega) (fun hb σb ρb hzb hSb => ?_)
  refine lw_last hrm hzb hSb hn hn2 (by omega) (by omega) (fun hc σc ρc hzc hSc => ?_)
  have hI40 := run_I (lim := lim) (N := N) (xs := xs) hn hn2 40 (Nat.le_refl _)
  have hI41 := run_I41 (lim := lim) (N := N) (xs := xs) hn hn2
  obtain ⟨s1, s2⟩ := lst_S (lim := lim) hI40 (by decide) (by decide) hn hn2
  obtain ⟨fW, eW, w1, w2⟩ := lst_W (lim := lim) hI40 (by decide) (by decide) hn hn2
  have hkS : kS (stp lim n (runD lim n (FO N xs) 40) (1000, 9, 0)) = _ := stp_n (lim := lim) (n := n) (X := runD lim n (FO N xs) 40) (r := (1000, 9, 0)) (by decide)
  rw [← run_41] at s1 s2 w1 hkS
  have hrm41 : ∀ j, j < 41 → Rm n (runD lim n (FO N xs) j) := fun j hj => run_rm hn hn2 hj
  have ht41 : ∀ j, j < 41 → (FO N xs j).1 ≤ 1000 := fun j hj => run_t hj
  have hsm : smO (runD lim n (FO N xs) 40) = sg (kS (runD lim n (FO N xs) 40)).1 (fun i => ((kS (runD lim n (FO N xs) 40)).2 i).2.2) := rfl
  rw [← hsm] at s1
  have hSX := hSc
  have hS40 : (kS (runD lim n (FO N xs) 40)).1 < 1000 := by have := hI40.1.1; omega
  generalize hX : runD lim n (FO N xs) 41 = X at *
  generalize smO (runD lim n (FO N xs) 40) = sm at *
  generalize hS0 : (kS (runD lim n (FO N xs) 40)).1 = S0 at *
  obtain ⟨⟨a1, a2, a3, a4, a5, a6⟩, g1, g2, g3, g4⟩ := hI41
  have hR : (kR X).1 ≤ 41 := by omega
  have hH : (kH X).1 ≤ 41 := by omega
  refine lw_rows (by omega) hrm hSX hn hn2 (fun i hi => (g3 i hi).1.m (Nat.le_refl _) (by omega)) g2 (kR X).1 0 (kc + 20 * 40 + 5) (ks + 140 * 40 + 26) hc (by omega) hzc (by omega) (by omega) (fun hd hzd => ?_)
  have key := lw_helds (x := x) (b := b) (lim := lim) (n := n) (sm := sm) (many := sg (kR X).1 (fun i => lN ((kR X).2 i).2.2.1)) (a0 := sg (kR X).1 (fun i => ((kR X).2 i).2.2.2)) (by omega) hrm hSX (kH X).1 0 (kc + 20 * 40 + 5 + 20 * (kR X).1 + 1) (ks + 140 * 40 + 26 + 120 * (kR X).1 + 6) hd (by omega) hzd (by omega) (by omega)
  rw [show sg 0 (lat (kH X)) = 0 from rfl, Int64.add_zero] at key
  refine key (fun he hze => ?_)
  have e1 : sg (kR X).1 (fun i => ((kR X).2 i).2.2.2) + sg (kH X).1 (lat (kH X)) = sm := s1
  rw [e1]
  refine lw_end (f := FO N xs) hrm hze (by rw [hX]; exact hSX) hX ⟨⟨a1, a2, a3, a4, a5, a6⟩, g1, g2, g3, g4⟩ s2 (by have := ltc_le (p := kH X) (kH X).1; omega) (by rw [hkS]) (by rw [w1]) hrm41 ht41 hn hn2 (by omega) (by omega) (fun h' lv => ?_)
  exact w_widen (by omega) (by omega) (k h' lv)
