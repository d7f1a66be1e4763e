/-! ITEMS, both: a key; first -/
theorem sk_rep {S : Nat} {σ y : Zs} {e p : Int32} (h : CFr S σ y) (h2 : zI y 258 0 0 0 = zI σ 258 0 0 0) : Sk S (sI (sI σ 192 0 0 0 e) 193 0 0 0 p) (sI (sI y 192 0 0 0 e) 193 0 0 0 p) := by
  refine ⟨fun c q hw s i => ?_, fun _ => ⟨rfl, rfl⟩, fun _ => h2⟩
  obtain ⟨a1, a2, a3⟩ := ((CFr.rf (S := S) (σ := y)).I (w0 rfl) : CFr S y (sI y 192 0 0 0 e)).I (w0 (c := 193) rfl) (v := p) (s := 0) (i := 0) c q hw s i
  obtain ⟨b1, b2, b3⟩ := ((CFr.rf (S := S) (σ := σ)).I (w0 rfl) : CFr S σ (sI σ 192 0 0 0 e)).I (w0 (c := 193) rfl) (v := p) (s := 0) (i := 0) c q hw s i
  obtain ⟨c1, c2, c3⟩ := h c q hw s i
  exact ⟨a1.trans (c1.trans b1.symm), a2.trans (c2.trans b2.symm), a3.trans (c3.trans b3.symm)⟩
section FI
variable {x : Cx} {t : Nat} {σ ρ : Zs} {d : Pd}
def kyC (σ : Zs) (S n j : Nat) : Zs := sI (sI σ 453 S n 0 (nI j)) 454 S n 0 (nI j)
/-- a window's key, told as a column, and the beginning -/
noncomputable def kyW (a : Int64) (p : Int32) (z : Zs) : Option (Unit × Zs) := bq (fX3_addColumn a z) fun v z => if v = 0 then (bq (fX3_report 5 p z) fun _ z => some ((), z)) else (bq (fX3_addColumn 422608071022 z) fun v z => if v = 0 then (bq (fX3_report 5 p z) fun _ z => some ((), z)) else some ((), z))
def KY (K S n j : Nat) (a : Int64) (p : Int32) (σ σ1 : Zs) : Prop := (K ≠ 7 → σ1 = kyC σ S n j) ∧ (K = 7 → kyW a p (kyC σ S n j) = some ((), σ1))
theorem s_key (hc : Cok x) {A W n K : Nat} (h : IP x 0 t σ ρ) (hm : qM x = 1 → zI σ 192 0 0 0 = 0 ∧ COL x A W σ ρ ∧ zR σ 195 0 0 0 = (qS x, n) ∧ zR σ 198 0 0 0 = (qS x, A) ∧ zI σ 449 (qS x) n 0 = nI K ∧ (K = 6 ∨ K = 7)) :
    SM (Er x 0) (fX4_takeName 4 σ) (fX14_columnNamed (nI A) ρ) (fun _ σ' a ρ' => qk x t = 200 ∧ ρ' = sI ρ 905 0 0 0 (nI (t + 1)) ∧ IP x 0 (t + 1) σ' ρ' ∧ (qM x = 0 → a = nI 0) ∧ (qM x = 1 → ∃ j σ1, j < W ∧ a = nI j ∧ KY K (qS x) n j (qw x t) (nI (qp x t)) σ σ1 ∧ ∃ k p w, σ' = avC σ1 t k p w)) := by
  rcases m01 hc with m | m
  · refine sm_m (s_nam hc h (by omega) (Or.inr rfl) (LK := fX14_columnOf (nI A)) (N := 12) (by decide) (v := 0) (Q := fun _ _ => True) (fun q => by omega) (fun q => by omega) (fun q => by omega)) ?_
    rintro _ σ' a ρ' ⟨a1, a2, a3, a4, _⟩
    exact ⟨a1, a2, a3, a4, fun q => by omega⟩
  · obtain ⟨g1, g2, g3, g4, g5, g6⟩ := hm m
    have s1 : (zR σ 195 0 0 0).1 = qS x := by rw [g3]
    have s2 : (zR σ 195 0 0 0).2 = n := by rw [g3]
    have s3 : (zR σ 198 0 0 0).1 = qS x := by rw [g4]
    have s4 : (zR σ 198 0 0 0).2 = A := by rw [g4]
    obtain ⟨v, hv⟩ : ∃ v, v = nix (fun c => zJ σ 1475 (qS x) A c) (qw x t) W 0 := ⟨_, rfl⟩
    have hC : fX7_columnNamed (qS x) A (qw x t) σ = some (v, σ) := by rw [hv]; exact g2.C _
    have n5 : ∀ z : Int32, ¬ (zI (sI σ 453 (qS x) n 0 z) 449 (qS x) n 0 = 5) := fun z => by
      rw [sI_c (by decide), g5, show (5 : Int32) = nI 5 from rfl, n_eq (by omega) (by omega)]; omega
    have hset : fX3_lookAtName 4 (qw x t) (nI (qp x t)) σ = bq (fX3_setKey_48 (qw x t) (nI (qp x t)) v (qS x) n (sI σ 453 (qS x) n 0 v)) fun _ z => some ((), z) := by
      unfold fX3_lookAtName
      rw [if_pos g1, if_neg (by decide), if_neg (by decide), if_neg (by decide), if_neg (by decide), if_pos rfl]
      unfold fX3_setKey
      have p1 : ∀ z, (zR (sI σ 453 (qS x) n 0 z) 195 0 0 0).1 = qS x := fun _ => s1
      have p2 : ∀ z, (zR (sI σ 453 (qS x) n 0 z) 195 0 0 0).2 = n := fun _ => s2
      rw [s3, s4, s1, s2, bq_e hC, lt_k, p1, p2, if_neg (n5 v), zI_sI, if_pos ⟨rfl, rfl, rfl, rfl⟩]
    have hW := g2.2.1
    refine sm_m (s_nam hc h (by omega) (Or.inr rfl) (LK := fX14_columnOf (nI A)) (N := W) (by omega) (v := v) (Q := fun j z => KY K (qS x) n j (qw x t) (nI (qp x t)) σ z) (fun _ => ⟨g1, by rw [hv]; exact g2.L (hc.g h.2.1) _, by rw [hv]; exact nix_r⟩) (fun _ _ j hj e => ?_) (fun _ _ e => ?_)) ?_
    · -- found
      subst e
      obtain ⟨zk, hzk⟩ : ∃ z, z = kyC σ (qS x) n j := ⟨_, rfl⟩
      have e453 : zI zk 453 (qS x) n 0 = nI j := by rw [hzk]; unfold kyC; rw [sI_c (by decide), zI_sI, if_pos ⟨rfl, rfl, rfl, rfl⟩]
      have e454 : zI zk 454 (qS x) n 0 = nI j := by rw [hzk]; unfold kyC; rw [zI_sI, if_pos ⟨rfl, rfl, rfl, rfl⟩]
      have e449 : zI zk 449 (qS x) n 0 = nI K := by rw [hzk]; unfold kyC; rw [sI_c (by decide), sI_c (by decide)]; exact g5
      have z1 : (zR zk 195 0 0 0).1 = qS x := by rw [hzk]; exact s1
      have z2 : (zR zk 195 0 0 0).2 = n := by rw [hzk]; exact s2
      have e48 : fX3_setKey_48 (qw x t) (nI (qp x t)) (nI j) (qS x) n (sI σ 453 (qS x) n 0 (nI j)) = if (nI K : Int32) = 7 then (kyW (qw x t) (nI (qp x t)) zk) else some ((), zk) := by
        unfold fX3_setKey_48
        have ek : sI (sI σ 453 (qS x) n 0 (nI j)) 454 (qS x) n 0 (nI j) = zk := by rw [hzk]; rfl
        rw [lt_k, ek, z1, z2, e453, if_neg (m1_lt (by omega)), e454, if_pos (show (0 : Int32) ≤ nI j by rw [i_0, n_le (by omega) (by omega)]; omega), e449]
        rfl
      rw [hset, e48]
      by_cases q7 : K = 7
      · rw [if_pos (by rw [q7]; rfl)]
        obtain ⟨⟨⟩, σ1, w1, w2⟩ := wp_ex (k_lookAtName h.1 (by omega) (Or.inr rfl : (4 : Int32) = 2 ∨ 0 = 0) (w := qw x t) (y := nI (qp x t)))
        rw [hset, e48, if_pos (by rw [q7]; rfl)] at w1
        have w1' : (kyW (qw x t) (nI (qp x t)) zk) = some ((), σ1) := by
          rw [bq_id] at w1; exact w1
        exact ⟨σ1, w1, fun q => absurd q7 q, fun _ => by rw [← hzk]; exact w1'⟩
      · rw [if_neg (show ¬ (nI K : Int32) = 7 by rw [show (7 : Int32) = nI 7 from rfl, n_eq (by omega) (by omega)]; exact q7), bq_s]
        exact ⟨zk, rfl, fun _ => hzk, fun q => absurd q q7⟩
    · -- not found
      rw [e] at hset
      have z1 : ∀ v v2, (zR (sI (sI σ 453 (qS x) n 0 v) 454 (qS x) n 0 v2) 195 0 0 0).1 = qS x := fun _ _ => s1
      have z2 : ∀ v v2, (zR (sI (sI σ 453 (qS x) n 0 v) 454 (qS x) n 0 v2) 195 0 0 0).2 = n := fun _ _ => s2
      refine ⟨sI (sI (sI (sI σ 453 (qS x) n 0 (-nI 1)) 454 (qS x) n 0 (-nI 1)) 192 0 0 0 2) 193 0 0 0 (nI (qp x t)), ?_, sI (sI σ 192 0 0 0 2) 193 0 0 0 (nI (qp x t)), ?_, sk_rep ((CFr.rf.I (wS rfl)).I (wS rfl)) rfl⟩
      · rw [hset]
        unfold fX3_setKey_48
        have e453 : zI (sI (sI σ 453 (qS x) n 0 (-nI 1)) 454 (qS x) n 0 (-nI 1)) 453 (qS x) n 0 = -nI 1 := by rw [sI_c (by decide), zI_sI, if_pos ⟨rfl, rfl, rfl, rfl⟩]
        rw [lt_k, z1, z2, e453, if_pos (by decide)]
        unfold fX3_report
        have z3 : zI (sI (sI σ 453 (qS x) n 0 (-nI 1)) 454 (qS x) n 0 (-nI 1)) 192 0 0 0 = 0 := by rw [sI_c (by decide), sI_c (by decide)]; exact g1
        rw [if_pos z3, lt_k, lt_k]
        rfl
      · unfold fX3_report
        rw [if_pos g1, lt_k, lt_k]
    · rintro _ σ' a ρ' ⟨a1, a2, a3, a4, a5⟩
      refine ⟨a1, a2, a3, a4, fun _ => ?_⟩
      obtain ⟨j, σ1, b1, b2, b3, b4, b5⟩ := a5 m
      exact ⟨j, σ1, b1, b3, b4, b5⟩
theorem SWK.av {L z np K A wp t2 u : Nat} {nm : Int64} {σb ρb : Zs} {a p : Int32} {w : Int64} {v : Int32} (h : SWK x d L z σb ρb nm np K A wp t σ ρ) (ht : t ≤ t2) : SWK x d L z σb ρb nm np K A wp t2 (avC σ u a p w) (sI ρ 905 0 0 0 v) := by
  refine ⟨fun m => h.1 m, fun m => ?_⟩
  obtain ⟨d1, d2, d3, d4, d5, d6, d7, d8, d9, d10, d11, d12, d13, d14, d15, d16, d17⟩ := h.2 m
  exact ⟨d1, d2.av' ht, d3, d4, d5, d6, d7, d8, d9, d10, d11, d12, d13, d14, d15, d16, d17⟩
theorem SWK.cI {L z np K A wp : Nat} {nm : Int64} {σb ρb : Zs} {c q s i : Nat} {v : Int32} (h : SWK x d L z σb ρb nm np K A wp t σ ρ) (hw : wI (qS x) (dN d) (dM d) c q s = true) (hn : [326, 1348, 192, 197, 449, 1476, 202, 203, 201].contains c = false) : SWK x d L z σb ρb nm np K A wp t (sI σ c q s i v) ρ := by
  simp only [List.contains_cons, List.contains_nil, Bool.or_false, Bool.or_eq_false_iff, beq_eq_false_iff_ne] at hn
  obtain ⟨n1, n2, n3, n4, n5, n6, n7, n8, n9⟩ := hn
  refine ⟨fun m => h.1 m, fun m => ?_⟩
  obtain ⟨d1, d2, d3, d4, d5, d6, d7, d8, d9, d10, d11, d12, d13, d14, d15, d16, d17⟩ := h.2 m
  exact ⟨d1, d2.cI hw ⟨n1, n2, n3, n4⟩, d3, d4, (sI_c (fun z => n5 z.symm)).trans d5, (sI_c (fun z => n6 z.symm)).trans d6, (sI_c (fun z => n6 z.symm)).trans d7, (sI_c (fun z => n7 z.symm)).trans d8, (sI_c (fun z => n8 z.symm)).trans d9, d10, d11, d12, d13, d14, d15, fun k => (sI_c (fun z => n9 z.symm)).trans (d16 k), fun k => ⟨(sI_c (fun z => n9 z.symm)).trans (d17 k).1, (d17 k).2⟩⟩
theorem SWK.lI {L z np K A wp : Nat} {nm : Int64} {σb ρb : Zs} {c q s i : Nat} {v : Int32} (h : SWK x d L z σb ρb nm np K A wp t σ ρ) (hw : qM x = 1 → wJ (qG x) (dN d) c q i = true) (hn : [785, 1810, 768, 781, 1795, 911, 1794, 1797, 1798, 910].contains c = false) : SWK x d L z σb ρb nm np K A wp t σ (sI ρ c q s i v) := by
  simp only [List.contains_cons, List.contains_nil, Bool.or_false, Bool.or_eq_false_iff, beq_eq_false_iff_ne] at hn
  obtain ⟨n1, n2, n3, n4, n5, n6, n7, n8, n9, n10⟩ := hn
  refine ⟨fun m => ⟨(h.1 m).1.I ⟨n3, n4, n5⟩, (sI_c (fun z => n6 z.symm)).trans (h.1 m).2.1, (h.1 m).2.2⟩, fun m => ?_⟩
  obtain ⟨d1, d2, d3, d4, d5, d6, d7, d8, d9, d10, d11, d12, d13, d14, d15, d16, d17⟩ := h.2 m
  exact ⟨d1, d2.lI (hw m) ⟨n1, n2⟩, d3, d4, d5, d6, d7, d8, d9, d10, (sI_c (fun z => n7 z.symm)).trans d11, (sI_c (fun z => n8 z.symm)).trans d12, (sI_c (fun z => n9 z.symm)).trans d13, (sI_c (fun z => n10 z.symm)).trans d14, (sI_c (fun z => n6 z.symm)).trans d15, d16, d17⟩
noncomputable def lFirst (n w12 : Int32) (ρ23 : Zs) : Option (Except (Int32 × Int32) Unit × Zs) := bw (fX14_take_ 13 ρ23) fun w34 ρ31 => if (zR ρ31 909 0 0 0).2 = 0 then bw (fX14_columnNamed w12 ρ31) fun w41 ρ38 => if gi n 12 then lt (sI ρ38 1801 ((zR ρ31 909 0 0 0).1) 0 (Int32.toNatClampNeg n) w41) fun ρ43 => bw (fX14_take_ 11 ρ43) fun w49 ρ46 => if (zR ρ46 909 0 0 0).2 = 0 then bw (fX14_numberIn 0 ρ46) fun w56 ρ53 => if gi n 12 then lt (sI ρ53 1799 ((zR ρ46 909 0 0 0).1) 0 (Int32.toNatClampNeg n) w56) fun ρ58 => bq (fX14_sayAll w12 (-1) ρ58) fun v60 ρ61 => some (.ok (), ρ61) else none else none else none else none
theorem sIdx_w {c : Nat} (h : [1794, 1797, 1798, 1799, 1800, 1801, 1802].contains c = true) : qM x = 1 → wJ (qG x) (dN d) c (qG x) (sIdx x d) = true := fun m => by
  rw [sIdx_1 m]
  unfold wJ
  rw [h]
  simp
theorem x_first (hc : Cok x) {L z np A wp : Nat} {nm : Int64} {σb ρb : Zs} (h : IP x 0 t σ ρ) (hD : SWK x d L z σb ρb nm np 6 A wp t σ ρ) : SM (Er x 0) (bq (oKey 141 σ) fun _ z => fX4_takeRange 139 z) (lFirst (nI (sIdx x d)) (nI A) ρ) (fun _ σ' _ ρ' => ∃ t', t ≤ t' ∧ IP x 0 t' σ' ρ' ∧ FIN x d t' nm np σ' ρ') := by
  have hs12 : sIdx x d < 12 := sIdx12 hc fun m => (hD.2 m).1
  have gs : gi (nI (sIdx x d)) 12 := (n_gi (by omega)).mpr hs12
  unfold lFirst oKey
  rw [bq_as]
  refine sm_b (s_take hc h (K := 13) rfl (by decide) (show ck 13 = 141 from rfl)) (fun _ σ2 _ ρ2 q => ?_) (fun _ _ _ _ q => q.go fun h => kb (kb (k_takeName h (by omega) (Or.inr rfl)) fun _ _ h => h) fun _ _ h => k_takeRange h)
  obtain ⟨q1, q2, ⟨ka, kp, kw, q3⟩, q4⟩ := q
  have D2 : SWK x d L z σb ρb nm np 6 A wp (t + 1) σ2 ρ2 := by rw [q3, q4]; exact hD.av (Nat.le_succ t)
  have r2 : (zR ρ2 909 0 0 0).2 = 0 := by rw [hc.g q2.2.1]
  have r1 : (zR ρ2 909 0 0 0).1 = qG x := by rw [hc.g q2.2.1]
  rw [if_pos r2, r1, bq_as]
  have hk : qM x = 1 → zI σ2 192 0 0 0 = 0 ∧ COL x A (dW d A) σ2 ρ2 ∧ zR σ2 195 0 0 0 = (qS x, dN d) ∧ zR σ2 198 0 0 0 = (qS x, A) ∧ zI σ2 449 (qS x) (dN d) 0 = nI 6 ∧ (6 = 6 ∨ 6 = 7) := fun m => by
    obtain ⟨d1, d2, d3, d4, d5, d6, d7, d8, d9, d10, _⟩ := D2.2 m
    exact ⟨d2.1, ((d2.old d1).col d1.1 d3).1, d2.2.2.1, d10, d5, Or.inl rfl⟩
  refine sm_b (s_key hc q2 hk) (fun _ σ3 w3 ρ3 q => ?_) (fun _ _ _ _ q => q.go fun h => k_takeRange h)
  obtain ⟨a1, a2, a3, a4, a5⟩ := q
  have es3 : sI ρ3 1801 (qG x) 0 (Int32.toNatClampNeg (nI (sIdx x d))) w3 = sI ρ3 1801 (qG x) 0 (sIdx x d) w3 := by rw [n_cl (show sIdx x d < 2147483648 by omega)]
  rw [if_pos gs, lt_k, bq_s, range_num, es3]
  have hL3 : LFr x (sI ρ3 1801 (qG x) 0 (sIdx x d) w3) := a3.2.1.I (wlG rfl)
  have hI3 : IP x 0 (t + 1 + 1) σ3 (sI ρ3 1801 (qG x) 0 (sIdx x d) w3) := a3.lw hL3 rfl rfl rfl
  have D3 : SWK x d L z σb ρb nm np 6 A wp (t + 1 + 1) σ3 (sI ρ3 1801 (qG x) 0 (sIdx x d) w3) := by
    refine SWK.lI ?_ (sIdx_w rfl) rfl
    rcases m01 hc with m | m
    · refine ⟨fun _ => ?_, fun q => by omega⟩
      rw [a2]; exact D2.1 m
    · obtain ⟨j, σ1, j1, j2, j3, k, p, w, j4⟩ := a5 m
      rw [j4, a2, j3.1 (by decide)]
      exact ((D2.cI (wI_S rfl) rfl).cI (wI_S rfl) rfl).av (Nat.le_succ _)
  refine sm_b (s_take hc hI3 (K := 11) rfl (by decide) (show ck 11 = 139 from rfl)) (fun _ σ4 _ ρ4 q => ?_) (fun _ _ _ _ q => q.go fun h => k_cnum h)
  obtain ⟨b1, b2, ⟨ka2, kp2, kw2, b3⟩, b4⟩ := q
  have D4 : SWK x d L z σb ρb nm np 6 A wp (t + 1 + 1 + 1) σ4 ρ4 := by rw [b3, b4]; exact D3.av (Nat.le_succ _)
  have r42 : (zR ρ4 909 0 0 0).2 = 0 := by rw [hc.g b2.2.1]
  have r41 : (zR ρ4 909 0 0 0).1 = qG x := by rw [hc.g b2.2.1]
  rw [if_pos r42, r41, show cNum 139 σ4 = bq (cNum 139 σ4) fun _ z => some ((), z) from bq_id.symm]
  have hm4 : qM x = 1 → zI σ4 192 0 0 0 = 0 ∧ zR σ4 195 0 0 0 = (qS x, dN d) := fun m => ⟨(D4.2 m).2.1.1, (D4.2 m).2.1.2.2.1⟩
  refine sm_b (s_num hc b2 (wd := 139) (lo := 0) (n := dN d) rfl hm4) (fun _ σ5 v5 ρ5 g => ?_) (fun _ _ _ _ q => q.go fun h => h)
  obtain ⟨g1, g2, g3, g4⟩ := g
  rw [if_pos gs, lt_k, n_cl (show sIdx x d < 2147483648 by omega)]
  have hL5 : LFr x (sI ρ5 1799 (qG x) 0 (sIdx x d) v5) := g3.2.1.I (wlG rfl)
  have hI5 : IP x 0 (t + 1 + 1 + 1 + 1) σ5 (sI ρ5 1799 (qG x) 0 (sIdx x d) v5) := g3.lw hL5 rfl rfl rfl
  have D5 : SWK x d L z σb ρb nm np 6 A wp (t + 1 + 1 + 1 + 1) σ5 (sI ρ5 1799 (qG x) 0 (sIdx x d) v5) := by
    refine SWK.lI ?_ (sIdx_w rfl) rfl
    rcases m01 hc with m | m
    · refine ⟨fun _ => ?_, fun q => by omega⟩
      rw [g2]; exact D4.1 m
    · obtain ⟨v, _, _, _, k, p, w, j4⟩ := g4 m
      rw [j4, g2]
      exact (D4.cI (wI_S rfl) rfl).av (Nat.le_succ _)
  rcases m01 hc with m | m
  · rw [bq_e (sa_0 (by rw [hc.m hL5, m]))]
    exact sm_ok ⟨_, by omega, hI5, fun _ => ⟨(D5.1 m).1, (D5.1 m).2.1⟩, fun q => by omega⟩
  · obtain ⟨d1, d2, d3, d4, d5, d6, d7, d8, d9, d10, d11, d12, d13, d14, d15, d16, d17⟩ := D5.2 m
    obtain ⟨Y, σ1, j1, j2, j3, k1, p1, w1, j4⟩ := a5 m
    obtain ⟨v, _, v1, v2, k2, p2, w2, v3⟩ := g4 m
    obtain ⟨c1, c2, c3, c4⟩ := (d2.old d1).col d1.1 d3
    obtain ⟨b1, b2, b3', b4', b5⟩ := id d1
    obtain ⟨ρ6, u1, u2, u3, u4, u5, u6, u7, u8⟩ := s_all hc m d1 d3 d2 hI5 d15
    obtain ⟨_, _, _, _, _, L', z', f1, f2, f3, f4, f5, f6⟩ := id u7
    rw [bq_e u1]
    have y1 : (zR σ5 195 0 0 0).1 = qS x := by rw [u7.2.2.1]
    have y2 : (zR σ5 195 0 0 0).2 = dN d := by rw [u7.2.2.1]
    have e453 : zI σ5 453 (qS x) (dN d) 0 = nI Y := by
      rw [v3]
      show zI (sI σ4 455 (qS x) (dN d) 0 (nI v)) 453 (qS x) (dN d) 0 = _
      rw [sI_c (by decide), b3, j4]
      show zI σ1 453 (qS x) (dN d) 0 = _
      rw [j3.1 (by decide)]
      unfold kyC
      rw [sI_c (by decide), zI_sI, if_pos ⟨rfl, rfl, rfl, rfl⟩]
    have e455 : zI σ5 455 (qS x) (dN d) 0 = nI v := by
      rw [v3]
      show zI (sI σ4 455 (qS x) (dN d) 0 (nI v)) 455 (qS x) (dN d) 0 = _
      rw [zI_sI, if_pos ⟨rfl, rfl, rfl, rfl⟩]
    have e1801 : zI ρ6 1801 (qG x) 0 (dN d) = nI Y := by
      rw [u4 _ _ _ _ (by decide), sI_c (by decide), g2]
      show zI ρ4 1801 (qG x) 0 (dN d) = _
      rw [b4]
      show zI (sI ρ3 1801 (qG x) 0 (sIdx x d) w3) 1801 (qG x) 0 (dN d) = _
      rw [sIdx_1 m, zI_sI, if_pos ⟨rfl, rfl, rfl, rfl⟩, j2]
    have e1799 : zI ρ6 1799 (qG x) 0 (dN d) = nI v := by
      rw [u4 _ _ _ _ (by decide), sIdx_1 m, zI_sI, if_pos ⟨rfl, rfl, rfl, rfl⟩, v2]
    refine sm_ok ⟨_, by omega, u8, fun q => by omega, fun _ => ⟨end_eq d2.1 (by rw [y1, y2, d5]; decide) (by rw [y1, y2, d5]; decide), d8, dW d A, d2.1, (d17 (by decide)).1, u2, by have := c1.2.1; omega, fun w6' => ⟨b1, b3', L, z, L', z', 6, A, 50, v, 0, Y, 0, fun _ => 0, fun c => dCn d A c, fun _ => [], σb, ρb, b2, u7.2.2.1, u7.2.2.2.1, u7.2.2.2.2.1, f1, f3, f2, f4, f5, f6, fun c hcw => ⟨(d17 (by decide)).2 c hcw, (u3 c hcw).1⟩, b1.2.2.1 A d3, Or.inl d3, Or.inr (Nat.le_refl _), ?_, ?_, ?_, b4', b5⟩⟩⟩
    · refine ⟨d4, d5, ?_, ?_, fun _ => e453, fun q => by omega, fun _ => e455, fun q => by omega, fun q => by omega, fun q => by omega, fun c q => by omega⟩
      · rw [if_neg (by decide)]; exact d6
      · rw [if_neg (by decide)]; exact d7
    · refine ⟨(u4 _ _ _ _ (by decide)).trans d11, ?_, ?_, fun _ => e1801, fun q => by omega, fun _ => e1799, fun q => by omega, fun q => by omega, fun q => by omega, fun q => by omega, fun c q => by omega⟩
      · rw [if_neg (by decide)]; exact (u4 _ _ _ _ (by decide)).trans d12
      · rw [if_neg (by decide)]; exact (u4 _ _ _ _ (by decide)).trans d13
    · exact ⟨by decide, c4, w6', v1, by omega, fun _ => d3, fun q => by omega, fun q => by omega, fun q => by omega, fun q => by omega, fun q => by omega, fun q => by omega, fun _ => ⟨j1, rfl⟩, fun q => by omega⟩
end FI
