/-! ITEMS, both: window, its key -/
section WM
variable {x : Cx} {t : Nat} {σ ρ : Zs} {d : Pd}
noncomputable def lW1 (x1 x2 : Int32) (ρ2 : Zs) : Option (Except (Int32 × Int32) Unit × Zs) := if gi (zI ρ2 905 0 0 0) 1501 then if gi (zI ρ2 905 0 0 0) 1501 then if (zR ρ2 909 0 0 0).2 = 0 then bw (fX14_columnNamed x2 ρ2) fun w14 ρ11 => if gi x1 12 then lt (sI ρ11 1801 ((zR ρ2 909 0 0 0).1) 0 (Int32.toNatClampNeg x1) w14) fun ρ16 => if ((lg_cmp (zJ ρ2 1928 0 0 (Int32.toNatClampNeg (zI ρ2 905 0 0 0))) 422608071022) : Int32) = 0 then (fX14_window_56 x1 x2  (zI ρ2 1927 0 0 (Int32.toNatClampNeg (zI ρ2 905 0 0 0))) (zJ ρ2 1928 0 0 (Int32.toNatClampNeg (zI ρ2 905 0 0 0))) 0 ρ16) else (fX14_window_56 x1 x2  (zI ρ2 1927 0 0 (Int32.toNatClampNeg (zI ρ2 905 0 0 0))) (zJ ρ2 1928 0 0 (Int32.toNatClampNeg (zI ρ2 905 0 0 0))) 1 ρ16) else none else none else none else none
theorem lw1_e {x1 x2 : Int32} : fX14_window x1 x2 ρ = bw (fX14_take_ 13 ρ) fun _ ρ2 => lW1 x1 x2 ρ2 := rfl
/-- what the class makes of a window's key -/
theorem ky7 {S n j : Nat} {a : Int64} {p : Int32} {σ1 : Zs} (hk : KY 7 S n j a p σ σ1) (h201 : zI σ 201 0 0 0 = nI 0) (h192 : zI σ 192 0 0 0 = 0) : (a ≠ 422608071022 ∧ σ1 = adN (adN (kyC σ S n j) 0 a) 1 422608071022) ∨ (a = 422608071022 ∧ zI σ1 192 0 0 0 = 5 ∧ zI σ1 193 0 0 0 = p) := by
  have h := hk.2 rfl
  have e201 : zI (kyC σ S n j) 201 0 0 0 = nI 0 := by unfold kyC; rw [sI_c (by decide), sI_c (by decide)]; exact h201
  have e192 : zI (adN (kyC σ S n j) 0 a) 192 0 0 0 = 0 := by unfold adN; rw [sI_c (by decide)]; show zI (kyC σ S n j) 192 0 0 0 = 0; unfold kyC; rw [sI_c (by decide), sI_c (by decide)]; exact h192
  have f201 : zI (adN (kyC σ S n j) 0 a) 201 0 0 0 = nI 1 := by unfold adN; rw [zI_sI, if_pos ⟨rfl, rfl, rfl, rfl⟩]
  have f0 : zJ (adN (kyC σ S n j) 0 a) 1224 0 0 0 = a := by rw [adN_j, if_pos rfl]
  unfold kyW at h
  rw [bq_e (ac_C e201 (by decide) (fun i hi => absurd hi (Nat.not_lt_zero _))), if10] at h
  by_cases q : a = 422608071022
  · refine Or.inr ⟨q, ?_⟩
    have hE := ac_E f201 (by decide) (show 0 < 1 by decide) (f0.trans q)
    have hrep : fX3_report 5 p (adN (kyC σ S n j) 0 a) = some ((), sI (sI (adN (kyC σ S n j) 0 a) 192 0 0 0 5) 193 0 0 0 p) := by
      unfold fX3_report; rw [if_pos e192, lt_k, lt_k]
    rw [bq_e hE, if00, hrep, bq_s] at h
    cases h
    exact ⟨rfl, rfl⟩
  · refine Or.inl ⟨q, ?_⟩
    rw [bq_e (ac_C f201 (by decide) (fun i hi => by
      have e : i = 0 := by omega
      rw [e, f0]; exact q)), if10] at h
    cases h; rfl
theorem x_window (hc : Cok x) {L z np A wp : Nat} {nm : Int64} {σb ρb : Zs} (ht2 : 2 ≤ t) (h : IP x 0 t σ ρ) (hD : SWK x d L z σb ρb nm np 7 A wp t σ ρ) (h456 : qM x = 1 → zI σ 456 (qS x) (dN d) 0 = nI 0) : SM (Er x 0) (fX4_window σ) (fX14_window (nI (sIdx x d)) (nI A) ρ) (fun _ σ' _ ρ' => ∃ t', t ≤ t' ∧ IP x 0 t' σ' ρ' ∧ FIN x d t' nm np σ' ρ') := by
  have hs12 : sIdx x d < 12 := sIdx12 hc fun m => (hD.2 m).1
  have gs : gi (nI (sIdx x d)) 12 := (n_gi (by omega)).mpr hs12
  rw [win_e, lw1_e]
  unfold oKey
  rw [bq_as]
  refine sm_b (s_take hc h (K := 13) rfl (by decide) (show ck 13 = 141 from rfl)) (fun _ σ2 _ ρ2 q => ?_) (fun _ _ _ _ q => q.go fun h => kb (kb (k_takeName h (by omega) (Or.inr rfl)) fun _ _ h => h) fun _ _ h => k_cWr h)
  obtain ⟨q1, q2, ⟨ka, kp, kw, q3⟩, q4⟩ := q
  have D2 : SWK x d L z σb ρb nm np 7 A wp (t + 1) σ2 ρ2 := by rw [q3, q4]; exact hD.av (Nat.le_succ t)
  have r2 : (zR ρ2 909 0 0 0).2 = 0 := by rw [hc.g q2.2.1]
  have r1 : (zR ρ2 909 0 0 0).1 = qG x := by rw [hc.g q2.2.1]
  unfold lW1
  rw [if_pos (q2.g5 hc), if_pos (q2.g5 hc), if_pos r2, r1, q2.w9 hc, q2.p9 hc, bq_as]
  have hk : qM x = 1 → zI σ2 192 0 0 0 = 0 ∧ COL x A (dW d A) σ2 ρ2 ∧ zR σ2 195 0 0 0 = (qS x, dN d) ∧ zR σ2 198 0 0 0 = (qS x, A) ∧ zI σ2 449 (qS x) (dN d) 0 = nI 7 ∧ (7 = 6 ∨ 7 = 7) := fun m => by
    obtain ⟨d1, d2, d3, d4, d5, d6, d7, d8, d9, d10, _⟩ := D2.2 m
    exact ⟨d2.1, ((d2.old d1).col d1.1 d3).1, d2.2.2.1, d10, d5, Or.inr rfl⟩
  refine sm_b (s_key hc q2 hk) (fun _ σ3 w3 ρ3 q => ?_) (fun _ _ _ _ q => q.go fun h => by rw [bq_s]; exact k_cWr h)
  obtain ⟨a1, a2, a3, a4, a5⟩ := q
  have es3 : sI ρ3 1801 (qG x) 0 (Int32.toNatClampNeg (nI (sIdx x d))) w3 = sI ρ3 1801 (qG x) 0 (sIdx x d) w3 := by rw [n_cl (show sIdx x d < 2147483648 by omega)]
  rw [if_pos gs, lt_k, bq_s, es3]
  have hL3 : LFr x (sI ρ3 1801 (qG x) 0 (sIdx x d) w3) := a3.2.1.I (wlG rfl)
  have hI3 : IP x 0 (t + 1 + 1) σ3 (sI ρ3 1801 (qG x) 0 (sIdx x d) w3) := a3.lw hL3 rfl rfl rfl
  rcases m01 hc with m | m
  · have e56 : (if ((lg_cmp (qw x (t + 1)) 422608071022) : Int32) = 0 then (fX14_window_56 (nI (sIdx x d)) (nI A) (nI (qp x (t + 1))) (qw x (t + 1)) 0 (sI ρ3 1801 (qG x) 0 (sIdx x d) w3)) else (fX14_window_56 (nI (sIdx x d)) (nI A) (nI (qp x (t + 1))) (qw x (t + 1)) 1 (sI ρ3 1801 (qG x) 0 (sIdx x d) w3))) = lW5 (nI (sIdx x d)) (nI A) (qw x (t + 1)) (sI ρ3 1801 (qG x) 0 (sIdx x d) w3) := by
      rw [w56_e, w56_e, bw_e must_1, bw_e (must_0 m hc hL3)]
      split <;> rfl
    rw [e56]
    have D3 : SW7 x d L z σb ρb nm np A (qw x (t + 1)) (t + 1 + 1) σ3 (sI ρ3 1801 (qG x) 0 (sIdx x d) w3) := by
      refine SW7.lI ⟨fun _ => ?_, fun q => by omega⟩ (sIdx_w rfl) rfl
      rw [a2]; exact D2.1 m
    exact sm_m (s_wrest (Y := 0) hc (by omega) hI3 D3 (fun q => by omega)) (fun _ _ _ _ ⟨t', e1, e2⟩ => ⟨t', by omega, e2⟩)
  · obtain ⟨d1, d2, d3, d4, d5, d6, d7, d8, d9, d10, d11, d12, d13, d14, d15, d16, d17⟩ := D2.2 m
    obtain ⟨j, σ1, j1, j2, j3, k, p, wd, j4⟩ := a5 m
    rcases ky7 j3 (d16 (Or.inr rfl)) d2.1 with ⟨b1, b2⟩ | ⟨b1, b2, b3⟩
    · rw [if_neg (fun z => b1 (l_cmp0.mp z)), w56_e, bw_e must_1]
      have D3 : SW7 x d L z σb ρb nm np A (qw x (t + 1)) (t + 1 + 1) σ3 (sI ρ3 1801 (qG x) 0 (sIdx x d) w3) := by
        refine SW7.lI ?_ (sIdx_w rfl) rfl
        rw [j4, a2, b2]
        refine SW7.av (t := t + 1) ⟨fun q => by omega, fun _ => ?_⟩ (Nat.le_succ _)
        have sk : SIx x d L z σb ρb (t + 1) (kyC σ2 (qS x) (dN d) j) ρ2 := (d2.cI (wI_S rfl) (by decide)).cI (wI_S rfl) (by decide)
        have fr : ∀ c, c ≠ 201 ∧ c ≠ 453 ∧ c ≠ 454 → ∀ q s i, zI (adN (adN (kyC σ2 (qS x) (dN d) j) 0 (qw x (t + 1))) 1 422608071022) c q s i = zI σ2 c q s i := fun c hn q s i => by
          unfold adN
          rw [sI_c hn.1]
          show zI (sI _ 201 0 0 0 _) c q s i = _
          rw [sI_c hn.1]
          show zI (kyC σ2 (qS x) (dN d) j) c q s i = _
          unfold kyC
          rw [sI_c hn.2.2, sI_c hn.2.1]
        refine ⟨d1, sk.adN.adN, d3, d4, (fr _ (by decide) _ _ _).trans d5, (fr _ (by decide) _ _ _).trans d6, (fr _ (by decide) _ _ _).trans d7, (fr _ (by decide) _ _ _).trans d8, d10, d11, d12, d13, d14, d15, ?_, ?_, ?_, b1⟩
        · unfold adN; rw [zI_sI, if_pos ⟨rfl, rfl, rfl, rfl⟩]
        · rw [adN_j, if_neg (by decide), adN_j, if_pos rfl]
        · rw [adN_j, if_pos rfl]
      refine sm_m (s_wrest (Y := j) hc (by omega) hI3 D3 (fun _ => ⟨j1, ?_, ?_, ?_⟩)) (fun _ _ _ _ ⟨t', e1, e2⟩ => ⟨t', by omega, e2⟩)
      · rw [j4, b2]
        show zI (kyC σ2 (qS x) (dN d) j) 453 (qS x) (dN d) 0 = _
        unfold kyC
        rw [sI_c (by decide), zI_sI, if_pos ⟨rfl, rfl, rfl, rfl⟩]
      · rw [j4, b2]
        show zI (kyC σ2 (qS x) (dN d) j) 456 (qS x) (dN d) 0 = _
        unfold kyC
        rw [sI_c (by decide), sI_c (by decide), q3]
        exact h456 m
      · rw [sIdx_1 m, zI_sI, if_pos ⟨rfl, rfl, rfl, rfl⟩, j2]
    · rw [if_pos (l_cmp0.mpr b1), w56_e]
      have hE : Er x 0 (5, nI (qp x (t + 1))) σ3 (sI ρ3 1801 (qG x) 0 (sIdx x d) w3) := by
        refine ⟨a3.1, hL3, Or.inr ⟨m, (show ¬ (5 : Int32) = 1 by decide), ?_, ?_, ?_⟩⟩
        · rw [j4]; exact b2
        · rw [j4]; exact b3
        · rw [j4]; show ¬ zI σ1 192 0 0 0 = 0; rw [b2]; decide
      exact sm_xw (must_e m hc hL3) (hE.go fun h => k_cWr h)
end WM
