/-! ITEMS, both: a key; first -/
theorem sk_rep {S : Nat} {σ y : Zs} {e p : Int32} (h : CFr S σ y) (h2 : zI y 258 0 0 0 = zI σ 258 0 0 0) : Sk S (sI (sI σ 192 0 0 0 e) 193 0 0 0 p) (sI (sI y 192 0 0 0 e) 193 0 0 0 p) := by
  refine ⟨fun c q hw s i => ?_, fun _ => ⟨rfl, rfl⟩, fun _ => h2⟩
  obtain ⟨a1, a2, a3⟩ := ((CFr.rf (S := S) (σ := y)).I (w0 rfl) : CFr S y (sI y 192 0 0 0 e)).I (w0 (c := 193) rfl) (v := p) (s := 0) (i := 0) c q hw s i
  obtain ⟨b1, b2, b3⟩ := ((CFr.rf (S := S) (σ := σ)).I (w0 rfl) : CFr S σ (sI σ 192 0 0 0 e)).I (w0 (c := 193) rfl) (v := p) (s := 0) (i := 0) c q hw s i
  obtain ⟨c1, c2, c3⟩ := h c q hw s i
  exact ⟨a1.trans (c1.trans b1.symm), a2.trans (c2.trans b2.symm), a3.trans (c3.trans b3.symm)⟩
section FI
variable {x : Cx} {t : Nat} {σ ρ : Zs} {d : Pd}
def kyC (σ : Zs) (S n j : Nat) : Zs := sI (sI σ 453 S n 0 (nI j)) 454 S n 0 (nI j)
def KY (K S n j : Nat) (a : Int64) (p : Int32) (σ σ1 : Zs) : Prop := (K ≠ 7 → σ1 = kyC σ S n j) ∧ (K = 7 → (bq (fX3_addColumn a p (kyC σ S n j)) fun _ z => bq (fX3_addColumn 422608071022 p z) fun _ z => some ((), z)) = some ((), σ1))
theorem s_key (hc : Cok x) {A W n K : Nat} (h : IP x 0 t σ ρ) (hm : qM x = 1 → zI σ 192 0 0 0 = 0 ∧ COL x A W σ ρ ∧ zR σ 195 0 0 0 = (qS x, n) ∧ zR σ 198 0 0 0 = (qS x, A) ∧ zI σ 449 (qS x) n 0 = nI K ∧ (K = 6 ∨ K = 7)) :
    SM (Er x 0) (fX4_takeName 4 σ) (fX14_columnNamed (nI A) ρ) (fun _ σ' a ρ' => qk x t = 200 ∧ ρ' = sI ρ 905 0 0 0 (nI (t + 1)) ∧ IP x 0 (t + 1) σ' ρ' ∧ (qM x = 0 → a = nI 0) ∧ (qM x = 1 → ∃ j σ1, j < W ∧ a = nI j ∧ KY K (qS x) n j (qw x t) (nI (qp x t)) σ σ1 ∧ ∃ k p w, σ' = avC σ1 t k p w)) := by
  rcases m01 hc with m | m
  · refine sm_m (s_nam hc h (by omega) (Or.inr rfl) (LK := fX14_columnOf (nI A)) (N := 12) (by decide) (v := 0) (Q := fun _ _ => True) (fun q => by omega) (fun q => by omega) (fun q => by omega)) ?_
    rintro _ σ' a ρ' ⟨a1, a2, a3, a4, _⟩
    exact ⟨a1, a2, a3, a4, fun q => by omega⟩
  · obtain ⟨g1, g2, g3, g4, g5, g6⟩ := hm m
    have s1 : (zR σ 195 0 0 0).1 = qS x := by rw [g3]
    have s2 : (zR σ 195 0 0 0).2 = n := by rw [g3]
    have s3 : (zR σ 198 0 0 0).1 = qS x := by rw [g4]
    have s4 : (zR σ 198 0 0 0).2 = A := by rw [g4]
    obtain ⟨v, hv⟩ : ∃ v, v = nix (fun c => zJ σ 1475 (qS x) A c) (qw x t) W 0 := ⟨_, rfl⟩
    have hC : fX7_columnNamed (qS x) A (qw x t) σ = some (v, σ) := by rw [hv]; exact g2.C _
    have n5 : ∀ z : Int32, ¬ (zI (sI σ 453 (qS x) n 0 z) 449 (qS x) n 0 = 5) := fun z => by
      rw [sI_c (by decide), g5, show (5 : Int32) = nI 5 from rfl, n_eq (by omega) (by omega)]; omega
    have hset : fX3_lookAtName 4 (qw x t) (nI (qp x t)) σ = bq (fX3_setKey_48 (qw x t) (nI (qp x t)) v (qS x) n (sI σ 453 (qS x) n 0 v)) fun _ z => some ((), z) := by
      unfold fX3_lookAtName
      rw [if_pos g1, if_neg (by decide), if_neg (by decide), if_neg (by decide), if_neg (by decide), if_pos rfl]
      unfold fX3_setKey
      have p1 : ∀ z, (zR (sI σ 453 (qS x) n 0 z) 195 0 0 0).1 = qS x := fun _ => s1
      have p2 : ∀ z, (zR (sI σ 453 (qS x) n 0 z) 195 0 0 0).2 = n := fun _ => s2
      rw [s3, s4, s1, s2, bq_e hC, lt_k, p1, p2, if_neg (n5 v), zI_sI, if_pos ⟨rfl, rfl, rfl, rfl⟩]
    have hW := g2.2.1
    refine sm_m (s_nam hc h (by omega) (Or.inr rfl) (LK := fX14_columnOf (nI A)) (N := W) (by omega) (v := v) (Q := fun j z => KY K (qS x) n j (qw x t) (nI (qp x t)) σ z) (fun _ => ⟨g1, by rw [hv]; exact g2.L (hc.g h.2.1) _, by rw [hv]; exact nix_r⟩) (fun _ _ j hj e => ?_) (fun _ _ e => ?_)) ?_
    · -- found
      subst e
      obtain ⟨zk, hzk⟩ : ∃ z, z = kyC σ (qS x) n j := ⟨_, rfl⟩
      have e453 : zI zk 453 (qS x) n 0 = nI j := by rw [hzk]; unfold kyC; rw [sI_c (by decide), zI_sI, if_pos ⟨rfl, rfl, rfl, rfl⟩]
      have e454 : zI zk 454 (qS x) n 0 = nI j := by rw [hzk]; unfold kyC; rw [zI_sI, if_pos ⟨rfl, rfl, rfl, rfl⟩]
      have e449 : zI zk 449 (qS x) n 0 = nI K := by rw [hzk]; unfold kyC; rw [sI_c (by decide), sI_c (by decide)]; exact g5
      have z1 : (zR zk 195 0 0 0).1 = qS x := by rw [hzk]; exact s1
      have z2 : (zR zk 195 0 0 0).2 = n := by rw [hzk]; exact s2
      have e48 : fX3_setKey_48 (qw x t) (nI (qp x t)) (nI j) (qS x) n (sI σ 453 (qS x) n 0 (nI j)) = if (nI K : Int32) = 7 then (bq (fX3_addColumn (qw x t) (nI (qp x t)) zk) fun _ z => bq (fX3_addColumn 422608071022 (nI (qp x t)) z) fun _ z => some ((), z)) else some ((), zk) := by
        unfold fX3_setKey_48
        have ek : sI (sI σ 453 (qS x) n 0 (nI j)) 454 (qS x) n 0 (nI j) = zk := by rw [hzk]; rfl
        rw [lt_k, ek, z1, z2, e453, if_neg (m1_lt (by omega)), e454, if_pos (show (0 : Int32) ≤ nI j by rw [i_0, n_le (by omega) (by omega)]; omega), e449]
      rw [hset, e48]
      by_cases q7 : K = 7
      · rw [if_pos (by rw [q7]; rfl)]
        obtain ⟨⟨⟩, σ1, w1, w2⟩ := wp_ex (k_lookAtName h.1 (by omega) (Or.inr rfl : (4 : Int32) = 2 ∨ 0 = 0) (w := qw x t) (y := nI (qp x t)))
        rw [hset, e48, if_pos (by rw [q7]; rfl)] at w1
        have w1' : (bq (fX3_addColumn (qw x t) (nI (qp x t)) zk) fun _ z => bq (fX3_addColumn 422608071022 (nI (qp x t)) z) fun _ z => some ((), z)) = some ((), σ1) := by
          rw [bq_id] at w1; exact w1
        exact ⟨σ1, w1, fun q => absurd q7 q, fun _ => by rw [← hzk]; exact w1'⟩
      · rw [if_neg (show ¬ (nI K : Int32) = 7 by rw [show (7 : Int32) = nI 7 from rfl, n_eq (by omega) (by omega)]; exact q7), bq_s]
        exact ⟨zk, rfl, fun _ => hzk, fun q => absurd q q7⟩
    · -- not found
      rw [e] at hset
      have z1 : ∀ v v2, (zR (sI (sI σ 453 (qS x) n 0 v) 454 (qS x) n 0 v2) 195 0 0 0).1 = qS x := fun _ _ => s1
      have z2 : ∀ v v2, (zR (sI (sI σ 453 (qS x) n 0 v) 454 (qS x) n 0 v2) 195 0 0 0).2 = n := fun _ _ => s2
      refine ⟨sI (sI (sI (sI σ 453 (qS x) n 0 (-nI 1)) 454 (qS x) n 0 (-nI 1)) 192 0 0 0 2) 193 0 0 0 (nI (qp x t)), ?_, sI (sI σ 192 0 0 0 2) 193 0 0 0 (nI (qp x t)), ?_, sk_rep ((CFr.rf.I (wS rfl)).I (wS rfl)) rfl⟩
      · rw [hset]
        unfold fX3_setKey_48
        have e453 : zI (sI (sI σ 453 (qS x) n 0 (-nI 1)) 454 (qS x) n 0 (-nI 1)) 453 (qS x) n 0 = -nI 1 := by rw [sI_c (by decide), zI_sI, if_pos ⟨rfl, rfl, rfl, rfl⟩]
        rw [lt_k, z1, z2, e453, if_pos (by decide)]
        unfold fX3_report
        have z3 : zI (sI (sI σ 453 (qS x) n 0 (-nI 1)) 454 (qS x) n 0 (-nI 1)) 192 0 0 0 = 0 := by rw [sI_c (by decide), sI_c (by decide)]; exact g1
        rw [if_pos z3, lt_k, lt_k]
        rfl
      · unfold fX3_report
        rw [if_pos g1, lt_k, lt_k]
    · rintro _ σ' a ρ' ⟨a1, a2, a3, a4, a5⟩
      refine ⟨a1, a2, a3, a4, fun _ => ?_⟩
      obtain ⟨j, σ1, b1, b2, b3, b4, b5⟩ := a5 m
      exact ⟨j, σ1, b1, b3, b4, b5⟩
end FI
