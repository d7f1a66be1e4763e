/-! ITEMS, both: join: its key -/
noncomputable def lJ3 (x1 x2 y3 y4 y5 y6 : Int32) (ρ28 : Zs) : Option (Except (Int32 × Int32) Unit × Zs) := bw (fX14_take_ 11 ρ28) fun w36 ρ33 => if (zR ρ33 909 0 0 0).2 = 0 then if gi x1 12 then lt (sI ρ33 1798 ((zR ρ33 909 0 0 0).1) 0 (Int32.toNatClampNeg x1) y4) fun ρ40 => if (zR ρ40 909 0 0 0).2 = 0 then if gi x1 12 then lt (sI ρ40 1801 ((zR ρ40 909 0 0 0).1) 0 (Int32.toNatClampNeg x1) y5) fun ρ45 => if (zR ρ45 909 0 0 0).2 = 0 then if gi x1 12 then lt (sI ρ45 1802 ((zR ρ45 909 0 0 0).1) 0 (Int32.toNatClampNeg x1) y6) fun ρ50 => if (zR ρ50 909 0 0 0).2 = 0 then bw (fX14_numberIn 0 ρ50) fun w58 ρ55 => if gi x1 12 then lt (sI ρ55 1799 ((zR ρ50 909 0 0 0).1) 0 (Int32.toNatClampNeg x1) w58) fun ρ60 => if (zI ρ60 906 0 0 0) = 0 then (some (.ok (), ρ60)) else (bq (fX14_sayAll x2 (-1) ρ60) fun v62 ρ63 => bq (fX14_sayAll y4 y6 ρ63) fun v66 ρ67 => fX14_join_218 x1 x2 FU y3 (zI ρ63 911 0 0 0) (zI ρ63 911 0 0 0) ρ67) else none else none else none else none else none else none else none else none
theorem j116 {x1 x2 y3 y4 y5 y6 z0 : Int32} {ρ : Zs} : fX14_join_116 x1 x2 y3 y4 y5 y6 z0 ρ = if gi (zI ρ 905 0 0 0) 1501 then bw (fX14_must z0 2 (zI ρ 1927 0 0 (Int32.toNatClampNeg (zI ρ 905 0 0 0))) ρ) fun _ ρ23 => bw (fX14_take ρ23) fun _ ρ28 => lJ3 x1 x2 y3 y4 y5 y6 ρ28 else none := rfl
noncomputable def lJ2 (x1 x2 p w11 : Int32) (ρ13 : Zs) : Option (Except (Int32 × Int32) Unit × Zs) := bq (fX14_is 200 ρ13) fun v17 ρ18 => if v17 = 0 then (bq (fX14_wrong ρ18) fun w95 ρ96 => some (.error w95, ρ96)) else (if (zI ρ18 906 0 0 0) = 0 then (fX14_join_68 x1 x2 p w11 0 ρ18) else (if gi (zI ρ18 905 0 0 0) 1501 then bq (fX14_columnOf x2 (zJ ρ18 1928 0 0 (Int32.toNatClampNeg (zI ρ18 905 0 0 0))) ρ18) fun v91 ρ92 => fX14_join_68 x1 x2 p w11 v91 ρ92 else none))
section JO
variable {x : Cx} {t : Nat} {σ ρ : Zs} {d : Pd}
theorem SW2.av {L z np K A B wp bp t2 u : Nat} {nm : Int64} {σb ρb : Zs} {a p : Int32} {w : Int64} {v : Int32} (h : SW2 x d L z σb ρb nm np K A B wp bp t σ ρ) (ht : t ≤ t2) : SW2 x d L z σb ρb nm np K A B wp bp t2 (avC σ u a p w) (sI ρ 905 0 0 0 v) := by
  refine ⟨fun m => h.1 m, fun m => ?_⟩
  obtain ⟨d1, d2, d3⟩ := h.2 m
  exact ⟨d1, d2.av' ht, d3⟩
theorem SW2.cI {L z np K A B wp bp : Nat} {nm : Int64} {σb ρb : Zs} {c q s i : Nat} {v : Int32} (h : SW2 x d L z σb ρb nm np K A B wp bp t σ ρ) (hw : wI (qS x) (dN d) (dM d) c q s = true) (hn : [326, 1348, 192, 197, 449, 1476, 202, 203, 204, 201].contains c = false) : SW2 x d L z σb ρb nm np K A B wp bp t (sI σ c q s i v) ρ := by
  simp only [List.contains_cons, List.contains_nil, Bool.or_false, Bool.or_eq_false_iff, beq_eq_false_iff_ne] at hn
  obtain ⟨n1, n2, n3, n4, n5, n6, n7, n8, n9, n10⟩ := hn
  refine ⟨fun m => h.1 m, fun m => ?_⟩
  obtain ⟨d1, d2, d3, d4, d5, d6, d7, d8, d9, d10, d11, d12, d13, d14, d15, d16, d17, d18⟩ := h.2 m
  exact ⟨d1, d2.cI hw ⟨n1, n2, n3, n4⟩, d3, d4, d5, (sI_c (fun z => n5 z.symm)).trans d6, (sI_c (fun z => n6 z.symm)).trans d7, (sI_c (fun z => n6 z.symm)).trans d8, (sI_c (fun z => n7 z.symm)).trans d9, (sI_c (fun z => n8 z.symm)).trans d10, (sI_c (fun z => n9 z.symm)).trans d11, d12, d13, d14, d15, d16, (sI_c (fun z => n10 z.symm)).trans d17, d18⟩
def kzC (σ : Zs) (S n : Nat) (a b : Int32) : Zs := sI (sI σ 453 S n 0 a) 454 S n 0 b
theorem s_key5 (hc : Cok x) {L z np A B wp bp : Nat} {nm : Int64} {σb ρb : Zs} {n p : Int32} {E : Unit → Zs → Option (Except (Int32 × Int32) Unit × Zs)} {R : Zs → Option (Unit × Zs)} {Q : Unit → Zs → Unit → Zs → Prop} (h : IP x 0 t σ ρ) (hD : SW2 x d L z σb ρb nm np 5 A B wp bp t σ ρ) (hR : ∀ σ0 z, St (qS x) 0 σ0 z → Wp1 (R z) fun _ => St0 (qS x) σ0)
    (g : ∀ Y Z σ' ρ', IP x 0 (t + 1) σ' ρ' → SW2 x d L z σb ρb nm np 5 A B wp bp (t + 1) σ' ρ' → (qM x = 1 → Y < dW d A ∧ Z < dW d B ∧ zI σ' 453 (qS x) (dN d) 0 = nI Y ∧ zI σ' 454 (qS x) (dN d) 0 = nI Z) → SM (Er0 x) (R σ') (bw (lJ3 n (nI A) p (nI B) (nI Y) (nI Z) ρ') E) Q) :
    SM (Er0 x) (bq (fX4_takeName 4 σ) fun _ z => R z) (bw (lJ2 n (nI A) p (nI B) ρ) E) Q := by
  unfold lJ2
  rw [bq_e (show fX14_is 200 ρ = _ from h.is hc 200 (by decide))]
  by_cases q : qk x t = 200
  · rw [if_pos q, if10, hc.m h.2.1]
    obtain ⟨σL, eL, kL⟩ := s_look0 h (by omega) (r := 4) (Or.inr rfl)
    rcases m01 hc with m | m
    · obtain ⟨σ', a1, a2, a3, k, p', w, a4⟩ := s_nm hc h q eL kL
      rw [m, if_pos (by rfl)]
      unfold fX14_join_68
      rw [hc.m h.2.1, m, if_pos (by rfl), if_neg (by decide), if_neg (by decide), j116, if_pos (h.g5 hc), bw_e must_1, bw_e a2, bq_e a1]
      exact g 0 0 _ _ a3 ⟨fun _ => hD.1 m, fun q => by omega⟩ (fun q => by omega)
    · obtain ⟨d1, d2, d3, d4, d5, d6, d7, d8, d9, d10, d11, d12, d13, _⟩ := hD.2 m
      obtain ⟨cA, nA, lA, wA⟩ := (d2.old d1).col d1.1 d3
      obtain ⟨cB, nB, lB, wB⟩ := (d2.old d1).col d1.1 d4
      have hWA := cA.2.1
      have hWB := cB.2.1
      have s1 : (zR σ 195 0 0 0).1 = qS x := by rw [d2.2.2.1]
      have s2 : (zR σ 195 0 0 0).2 = dN d := by rw [d2.2.2.1]
      have s3 : (zR σ 198 0 0 0).1 = qS x := by rw [d12]
      have s4 : (zR σ 198 0 0 0).2 = A := by rw [d12]
      have s5 : (zR σ 199 0 0 0).1 = qS x := by rw [d13]
      have s6 : (zR σ 199 0 0 0).2 = B := by rw [d13]
      obtain ⟨va, hva⟩ : ∃ v, v = nix (fun c => zJ σ 1475 (qS x) A c) (qw x t) (dW d A) 0 := ⟨_, rfl⟩
      obtain ⟨vb, hvb⟩ : ∃ v, v = nix (fun c => zJ σ 1475 (qS x) B c) (qw x t) (dW d B) 0 := ⟨_, rfl⟩
      have hCA : fX7_columnNamed (qS x) A (qw x t) σ = some (va, σ) := by rw [hva]; exact cA.C _
      obtain ⟨σ2, hσ2⟩ : ∃ z, z = sI σ 453 (qS x) (dN d) 0 va := ⟨_, rfl⟩
      have cB2 : fX7_columnNamed (qS x) B (qw x t) σ2 = some (vb, σ2) := by
        have := COL.C (x := x) (A := B) (W := dW d B) (σ := σ2) (ρ := ρ) ⟨cB.1, cB.2.1, by rw [hσ2, sI_c (by decide)]; exact cB.2.2.1, cB.2.2.2.1, fun c hcw => by rw [hσ2]; exact cB.2.2.2.2 c hcw⟩ (qw x t)
        rw [this, hvb, hσ2]; rfl
      have hLA : fX14_columnOf (nI A) (qw x t) ρ = some (va, ρ) := by rw [hva]; exact cA.L (hc.g h.2.1) _
      have hLB : fX14_columnOf (nI B) (qw x t) ρ = some (vb, ρ) := by rw [hvb]; exact cB.L (hc.g h.2.1) _
      obtain ⟨zk, hzk⟩ : ∃ z, z = kzC σ (qS x) (dN d) va vb := ⟨_, rfl⟩
      have e453 : zI zk 453 (qS x) (dN d) 0 = va := by rw [hzk]; unfold kzC; rw [sI_c (by decide), zI_sI, if_pos ⟨rfl, rfl, rfl, rfl⟩]
      have e454 : zI zk 454 (qS x) (dN d) 0 = vb := by rw [hzk]; unfold kzC; rw [zI_sI, if_pos ⟨rfl, rfl, rfl, rfl⟩]
      have e449 : zI zk 449 (qS x) (dN d) 0 = nI 5 := by rw [hzk]; unfold kzC; rw [sI_c (by decide), sI_c (by decide)]; exact d6
      have e192 : zI zk 192 0 0 0 = 0 := by rw [hzk]; unfold kzC; rw [sI_c (by decide), sI_c (by decide)]; exact d2.1
      have z1 : (zR zk 195 0 0 0).1 = qS x := by rw [hzk]; exact s1
      have z2 : (zR zk 195 0 0 0).2 = dN d := by rw [hzk]; exact s2
      have ek : sI σ2 454 (qS x) (dN d) 0 vb = zk := by rw [hzk, hσ2]; rfl
      have hlk : fX3_lookAtName 4 (qw x t) (nI (qp x t)) σ = bq (if va < 0 then (bq (fX3_report 2 (nI (qp x t)) zk) fun _ z => some ((), z)) else (if 0 ≤ vb then some ((), zk) else (bq (fX3_report 2 (nI (qp x t)) zk) fun _ z => some ((), z)))) fun _ z => some ((), z) := by
        unfold fX3_lookAtName
        rw [if_pos d2.1, if_neg (by decide), if_neg (by decide), if_neg (by decide), if_neg (by decide), if_pos rfl]
        unfold fX3_setKey
        have p1 : (zR σ2 195 0 0 0).1 = qS x := by rw [hσ2]; exact s1
        have p2 : (zR σ2 195 0 0 0).2 = dN d := by rw [hσ2]; exact s2
        have p5 : (zR σ2 199 0 0 0).1 = qS x := by rw [hσ2]; exact s5
        have p6 : (zR σ2 199 0 0 0).2 = B := by rw [hσ2]; exact s6
        have p9 : zI σ2 449 (qS x) (dN d) 0 = 5 := by rw [hσ2, sI_c (by decide), d6]; rfl
        rw [s3, s4, s1, s2, bq_e hCA, lt_k, ← hσ2, p1, p2, if_pos p9, p5, p6, bq_e cB2]
        unfold fX3_setKey_48
        rw [lt_k, ek, z1, z2, e453, e454, e449, if_neg (show ¬ (nI 5 : Int32) = 7 by decide)]
      rw [m, if_neg (by decide), if_pos (h.g5 hc), h.w9 hc, bq_e hLA]
      unfold fX14_join_68
      rw [hc.m h.2.1, m, if_neg (by decide), if_pos (h.g5 hc), h.w9 hc, bq_e hLB]
      have bad : (va < 0 ∨ ¬ 0 ≤ vb) → SM (Er0 x) (bq (fX4_takeName 4 σ) fun _ z => R z) (bw (fX14_join_116 n (nI A) p (nI B) va vb 0 ρ) E) Q := fun hb => by
        have hrep : fX3_report 2 (nI (qp x t)) zk = some ((), sI (sI zk 192 0 0 0 2) 193 0 0 0 (nI (qp x t))) := by
          unfold fX3_report; rw [if_pos e192, lt_k, lt_k]
        have hl2 : fX3_lookAtName 4 (qw x t) (nI (qp x t)) σ = some ((), sI (sI zk 192 0 0 0 2) 193 0 0 0 (nI (qp x t))) := by
          rw [hlk]
          by_cases q1 : va < 0
          · rw [if_pos q1, bq_e hrep, bq_s]
          · rw [if_neg q1, if_neg (by rcases hb with h | h; exact absurd h q1; exact h), bq_e hrep, bq_s]
        obtain ⟨z', r1, r2⟩ := rep_E (E := (0, 0, 0, 0, 0, σ, σ)) m h.1 h.2.1 d2.1 (a := 2) (b := nI (qp x t)) (by decide) (by decide)
        have r0 : Er x 0 (2, nI (qp x t)) z' ρ := r2
        have hz' : z' = sI (sI σ 192 0 0 0 2) 193 0 0 0 (nI (qp x t)) := by
          unfold fX3_report at r1
          rw [if_pos d2.1, lt_k, lt_k] at r1
          cases r1; rfl
        have hSk : Sk (qS x) z' (sI (sI zk 192 0 0 0 2) 193 0 0 0 (nI (qp x t))) := by
          rw [hz', hzk]; exact sk_rep ((CFr.rf.I (wS rfl)).I (wS rfl)) rfl
        have hSt : St (qS x) 0 (qC x) (sI (sI zk 192 0 0 0 2) 193 0 0 0 (nI (qp x t))) := by rw [eL] at hl2; cases hl2; exact kL
        have hE : Er x 0 (2, nI (qp x t)) (sI (sI zk 192 0 0 0 2) 193 0 0 0 (nI (qp x t))) ρ := ⟨hSt, h.2.1, r0.2.2.go hSk⟩
        obtain ⟨⟨⟩, z3, w2, w3⟩ := wp_ex (s_nmE hc h q hl2 hE)
        rw [j116, if_pos (h.g5 hc), h.p9 hc, bw_x (must_e m hc h.2.1), bq_e w2]
        exact sm_xw rfl (w3.go0 fun h => hR _ _ h)
      rcases (nix_r : nix (fun c => zJ σ 1475 (qS x) A c) (qw x t) (dW d A) 0 = -nI 1 ∨ _) with e | ⟨Y, hY, e⟩
      · rw [← hva] at e
        rw [if_pos (show va = -1 by rw [e]; rfl)]
        exact bad (Or.inl (by rw [e]; decide))
      · rw [← hva] at e
        have hYn : ¬ va = -1 := by rw [e]; exact n_mx (a := Y) (by omega)
        rw [if_neg hYn]
        rcases (nix_r : nix (fun c => zJ σ 1475 (qS x) B c) (qw x t) (dW d B) 0 = -nI 1 ∨ _) with e2 | ⟨Z, hZ, e2⟩
        · rw [← hvb] at e2
          rw [if_pos (show vb = -1 by rw [e2]; rfl)]
          exact bad (Or.inr (by rw [e2]; decide))
        · rw [← hvb] at e2
          rw [if_neg (show ¬ vb = -1 by rw [e2]; exact n_mx (a := Z) (by omega))]
          have hl2 : fX3_lookAtName 4 (qw x t) (nI (qp x t)) σ = some ((), zk) := by
            rw [hlk, if_neg (by rw [e]; exact m1_lt (by omega)), if_pos (show 0 ≤ vb by rw [e2, i_0, n_le (by omega) (by omega)]; omega), bq_s]
          have hSt : St (qS x) 0 (qC x) zk := by rw [eL] at hl2; cases hl2; exact kL
          obtain ⟨σ', a1, a2, a3, k, p', w, a4⟩ := s_nm hc h q hl2 hSt
          rw [j116, if_pos (h.g5 hc), bw_e must_1, bw_e a2, bq_e a1, e, e2]
          refine g Y Z _ _ a3 ?_ (fun _ => ⟨hY, hZ, ?_, ?_⟩)
          · rw [a4, hzk]
            exact ((hD.cI (wI_S rfl) rfl).cI (wI_S rfl) rfl).av (Nat.le_succ t)
          · rw [a4]; exact e453.trans e
          · rw [a4]; exact e454.trans e2
  · obtain ⟨z, a1, a2⟩ := s_nmN hc h q (r := 4)
    rw [if_neg q, if00, bq_e (h.wr hc), bq_e a1]
    exact sm_xw rfl (a2.go0 fun h => hR _ _ h)
end JO
