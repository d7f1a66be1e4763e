/-! ITEMS, both: columns are added; pick -/
section PK
variable {x : Cx} {t : Nat} {σ ρ : Zs} {d : Pd}
/-- behind the first input, w columns made -/
def SWN (x : Cx) (d : Pd) (L z : Nat) (σb ρb : Zs) (nm : Int64) (np K A w t : Nat) (σ ρ : Zs) : Prop :=
  (qM x = 0 → M0 x ρ ∧ zI ρ 911 0 0 0 = nI 0 ∧ A = 0) ∧ (qM x = 1 → HB x d L z nm σb ρb ∧ SIx x d L z σb ρb t σ ρ ∧ A < dN d ∧ zJ σ 448 (qS x) (dN d) 0 = nm ∧ zI σ 449 (qS x) (dN d) 0 = nI K ∧ zI σ 1476 (qS x) (dN d) 0 = nI A ∧ zI σ 1476 (qS x) (dN d) 1 = -1 ∧ zI σ 202 0 0 0 = nI np ∧ zR σ 198 0 0 0 = (qS x, A)
    ∧ zI ρ 1794 (qG x) 0 (dN d) = nI K ∧ zI ρ 1797 (qG x) 0 (dN d) = nI A ∧ zI ρ 1798 (qG x) 0 (dN d) = -1 ∧ zI ρ 910 0 0 0 = nI A ∧ NLw w σ ρ)
theorem SWK.swn {L z np K A wp : Nat} {nm : Int64} {σb ρb : Zs} (h : SWK x d L z σb ρb nm np K A wp t σ ρ) (hK : K = 3 ∨ K = 7) : SWN x d L z σb ρb nm np K A 0 t σ ρ := by
  refine ⟨h.1, fun m => ?_⟩
  obtain ⟨d1, d2, d3, d4, d5, d6, d7, d8, d9, d10, d11, d12, d13, d14, d15, d16, d17⟩ := h.2 m
  exact ⟨d1, d2, d3, d4, d5, d6, d7, d8, d10, d11, d12, d13, d14, ⟨d16 hK, d15, by omega, fun j hj => absurd hj (Nat.not_lt_zero _), fun i j hi => absurd hi (Nat.not_lt_zero _)⟩⟩
theorem SWN.av {L z np K A w t2 u : Nat} {nm : Int64} {σb ρb : Zs} {a p : Int32} {wd : Int64} {v : Int32} (h : SWN x d L z σb ρb nm np K A w t σ ρ) (ht : t ≤ t2) : SWN x d L z σb ρb nm np K A w t2 (avC σ u a p wd) (sI ρ 905 0 0 0 v) := by
  refine ⟨fun m => h.1 m, fun m => ?_⟩
  obtain ⟨d1, d2, d3, d4, d5, d6, d7, d8, d9, d10, d11, d12, d13, d14⟩ := h.2 m
  exact ⟨d1, d2.av' ht, d3, d4, d5, d6, d7, d8, d9, d10, d11, d12, d13, d14⟩
theorem SWN.cI {L z np K A w : Nat} {nm : Int64} {σb ρb : Zs} {c q s i : Nat} {v : Int32} (h : SWN x d L z σb ρb nm np K A w t σ ρ) (hw : wI (qS x) (dN d) (dM d) c q s = true) (hn : [326, 1348, 192, 197, 449, 1476, 202, 201].contains c = false) : SWN x d L z σb ρb nm np K A w t (sI σ c q s i v) ρ := by
  simp only [List.contains_cons, List.contains_nil, Bool.or_false, Bool.or_eq_false_iff, beq_eq_false_iff_ne] at hn
  obtain ⟨n1, n2, n3, n4, n5, n6, n7, n9⟩ := hn
  refine ⟨fun m => h.1 m, fun m => ?_⟩
  obtain ⟨d1, d2, d3, d4, d5, d6, d7, d8, d9, d10, d11, d12, d13, d14⟩ := h.2 m
  exact ⟨d1, d2.cI hw ⟨n1, n2, n3, n4⟩, d3, d4, (sI_c (fun z => n5 z.symm)).trans d5, (sI_c (fun z => n6 z.symm)).trans d6, (sI_c (fun z => n6 z.symm)).trans d7, (sI_c (fun z => n7 z.symm)).trans d8, d9, d10, d11, d12, d13, ⟨(sI_c (fun z => n9 z.symm)).trans d14.1, d14.2⟩⟩
theorem SWN.lI {L z np K A w : Nat} {nm : Int64} {σb ρb : Zs} {c q s i : Nat} {v : Int32} (h : SWN x d L z σb ρb nm np K A w t σ ρ) (hw : qM x = 1 → wJ (qG x) (dN d) c q i = true) (hn : [785, 1810, 768, 781, 1795, 911, 1794, 1797, 1798, 910].contains c = false) : SWN x d L z σb ρb nm np K A w t σ (sI ρ c q s i v) := by
  simp only [List.contains_cons, List.contains_nil, Bool.or_false, Bool.or_eq_false_iff, beq_eq_false_iff_ne] at hn
  obtain ⟨n1, n2, n3, n4, n5, n6, n7, n8, n9, n10⟩ := hn
  refine ⟨fun m => ⟨(h.1 m).1.I ⟨n3, n4, n5⟩, (sI_c (fun z => n6 z.symm)).trans (h.1 m).2.1, (h.1 m).2.2⟩, fun m => ?_⟩
  obtain ⟨d1, d2, d3, d4, d5, d6, d7, d8, d9, d10, d11, d12, d13, d14⟩ := h.2 m
  exact ⟨d1, d2.lI (hw m) ⟨n1, n2⟩, d3, d4, d5, d6, d7, d8, d9, (sI_c (fun z => n7 z.symm)).trans d10, (sI_c (fun z => n8 z.symm)).trans d11, (sI_c (fun z => n9 z.symm)).trans d12, (sI_c (fun z => n10 z.symm)).trans d13, ⟨d14.1, (sI_c (fun z => n6 z.symm)).trans d14.2.1, d14.2.2⟩⟩
/-- one more -/
theorem SWN.add {L z np K A w : Nat} {nm : Int64} {σb ρb : Zs} {a : Int64} {s u : Int32} (h : SWN x d L z σb ρb nm np K A w t σ ρ) (hw : w + 1 < 1500) (m : qM x = 1) (hn : ∀ j, j < w → zJ ρ 1936 0 0 j ≠ a) : SWN x d L z σb ρb nm np K A (w + 1) t (adN σ w a) (sayR ρ w a s u) := by
  refine ⟨fun q => by omega, fun m => ?_⟩
  obtain ⟨d1, d2, d3, d4, d5, d6, d7, d8, d9, d10, d11, d12, d13, d14⟩ := h.2 m
  have hn2 : ∀ j, j < w → zJ σ 1224 0 0 j ≠ a := fun j hj => by rw [d14.2.2.2.1 j hj]; exact hn j hj
  refine ⟨d1, ?_, d3, d4, ?_, ?_, ?_, ?_, d9, ?_, ?_, ?_, ?_, d14.add hw hn2⟩
  · exact d2.adN.sayR
  · unfold adN; rw [sI_c (by decide)]; exact d5
  · unfold adN; rw [sI_c (by decide)]; exact d6
  · unfold adN; rw [sI_c (by decide)]; exact d7
  · unfold adN; rw [sI_c (by decide)]; exact d8
  · rw [sayR_I (by decide)]; exact d10
  · rw [sayR_I (by decide)]; exact d11
  · rw [sayR_I (by decide)]; exact d12
  · rw [sayR_I (by decide)]; exact d13
/-- a new column's name, whatever the class does with it -/
theorem s_ncol (hc : Cok x) (h : IP x 0 t σ ρ) (q : qk x t = 200) {r : Int32} {w : Nat} {σ1 : Zs} (hl : fX3_lookAtName r (qw x t) (nI (qp x t)) σ = some ((), σ1)) (hS : St (qS x) 0 (qC x) σ1) (h0 : qM x = 0 → zI ρ 911 0 0 0 = nI 0) (hm : qM x = 1 → zI ρ 911 0 0 0 = nI w ∧ w ≤ 1500 ∧ ((∀ j, j < w → zJ ρ 1936 0 0 j ≠ qw x t) ∨ Er x 0 (5, nI (qp x t)) σ1 ρ ∧ ∃ j, j < w ∧ zJ ρ 1936 0 0 j = qw x t)) :
    SM (Er x 0) (fX4_takeName r σ) (fX14_newColumn ρ) (fun _ σ' a ρ' => a = qw x t ∧ ρ' = sI ρ 905 0 0 0 (nI (t + 1)) ∧ IP x 0 (t + 1) σ' ρ' ∧ (qM x = 1 → ∀ j, j < w → zJ ρ 1936 0 0 j ≠ qw x t) ∧ ∃ k p v, σ' = avC σ1 t k p v) := by
  unfold fX14_newColumn
  rw [bq_e (show fX14_is 200 ρ = _ from h.is hc 200 (by decide)), if_pos q, if10, if_pos (h.g5 hc), h.w9 hc]
  obtain ⟨σ', a1, a2, a3, k, p, u, a4⟩ := s_nm hc h q hl hS
  have ok : (qM x = 1 → ∀ j, j < w → zJ ρ 1936 0 0 j ≠ qw x t) → SM (Er x 0) (fX4_takeName r σ) (bw (fX14_take ρ) fun w31 ρ28 => some ((.ok (qw x t), ρ28) : Except (Int32 × Int32) Int64 × Zs)) (fun _ σ' a ρ' => a = qw x t ∧ ρ' = sI ρ 905 0 0 0 (nI (t + 1)) ∧ IP x 0 (t + 1) σ' ρ' ∧ (qM x = 1 → ∀ j, j < w → zJ ρ 1936 0 0 j ≠ qw x t) ∧ ∃ k p v, σ' = avC σ1 t k p v) := fun hn => by
    rw [a1, bw_e a2]
    exact sm_ok ⟨rfl, rfl, a3, hn, k, p, u, a4⟩
  rcases m01 hc with m | m
  · have hix := name_R (c := 1936) (p := 0) (s := 0) (n0 := 1500) (off := 0) (N := 0) (w := qw x t) (ρ := ρ) (by omega) (by decide) (by omega)
    rw [h0 m, bq_e (show fX14_indexOf 1936 0 0 1500 0 (nI 0) (qw x t) ρ = _ from hix), h.p9 hc, if_pos (h.g5 hc), if_pos (h.g5 hc), bw_e must_1, bw_e (must_0 m hc h.2.1)]
    split
    · exact ok (fun q => by omega)
    · exact ok (fun q => by omega)
  · obtain ⟨g1, g2, g3⟩ := hm m
    have hix := name_R (c := 1936) (p := 0) (s := 0) (n0 := 1500) (off := 0) (N := w) (w := qw x t) (ρ := ρ) (by omega) (by decide) (by omega)
    rw [g1, bq_e (show fX14_indexOf 1936 0 0 1500 0 (nI w) (qw x t) ρ = _ from hix), h.p9 hc, if_pos (h.g5 hc), if_pos (h.g5 hc)]
    rcases g3 with g3 | ⟨g3, j, hj, g4⟩
    · rw [nix_no (fun s hs => by rw [Nat.zero_add]; exact g3 s hs), if_pos (show (-nI 1 : Int32) = -1 from rfl), bw_e must_1]
      exact ok fun _ => g3
    · rcases nix_s (f := fun s => zJ ρ 1936 0 0 (0 + s)) (w := qw x t) w 0 with ⟨_, e2⟩ | ⟨i, _, hi, _, e, _⟩
      · exact absurd (by rw [Nat.zero_add]; exact g4) (e2 j (Nat.zero_le _) (by omega))
      · rw [e, if_neg (n_mx (a := i) (by omega))]
        exact sm_xw (must_e m hc h.2.1) (s_nmE hc h q hl g3)
def pkC (z : Zs) (S n w j : Nat) : Zs := if w < 6 then sI z 1483 S n w (nI j) else z
theorem sp_C {S n w j : Nat} (h : zI σ 201 0 0 0 = nI (w + 1)) (hw : w < 1500) : fX7_setPart S n (zI σ 201 0 0 0 - 1) (nI j) σ = some ((), pkC σ S n w j) := by
  have e : zI σ 201 0 0 0 - 1 = nI w := by rw [h, i_1, n_sub (by omega)]; rfl
  rw [e]
  unfold fX7_setPart pkC
  rw [if_neg (m1_lt (by omega)), i_6]
  by_cases q : w < 6
  · have g : gi (nI w) 6 := (n_gi (by omega)).mpr q
    rw [if_neg (fun z => by have := (n_le (by omega) (by omega)).mp z; omega), if_pos g, lt_k, if_pos q, n_cl (by omega)]
  · rw [if_pos ((n_le (by omega) (by omega)).mpr (by omega)), if_neg q]
/-- one column that is picked -/
theorem s_pick1 (hc : Cok x) {L z np A w : Nat} {nm : Int64} {σb ρb : Zs} (h : IP x 0 t σ ρ) (hD : SWN x d L z σb ρb nm np 3 A w t σ ρ) (hw : w + 1 < 1500) : SM (Er x 0) (fX4_takeName 5 σ) (fX14_pickOne (nI A) ρ) (fun _ σ' _ ρ' => IP x 0 (t + 1) σ' ρ' ∧ (qM x = 0 → ρ' = sI ρ 905 0 0 0 (nI (t + 1))) ∧ (qM x = 1 → ∃ j, j < dW d A ∧ (∀ i, i < w → zJ ρ 1936 0 0 i ≠ qw x t) ∧ ρ' = sayR (sI ρ 905 0 0 0 (nI (t + 1))) w (qw x t) (nI j) 0 ∧ ∃ k p v, σ' = avC (pkC (adN σ w (qw x t)) (qS x) (dN d) w j) t k p v)) := by
  unfold fX14_pickOne
  rw [bq_e (show fX14_is 200 ρ = _ from h.is hc 200 (by decide))]
  by_cases q : qk x t = 200
  · rw [if_pos q, if10, hc.m h.2.1]
    rcases m01 hc with m | m
    · obtain ⟨σ1, e1, e2⟩ := s_look0 h (by omega) (r := 5) (Or.inr rfl)
      rw [m, if_pos (by rfl), if_neg (by decide)]
      unfold fX14_pickOne_52
      rw [if_pos (h.g5 hc), bw_e must_1, show fX4_takeName 5 σ = bq (fX4_takeName 5 σ) fun _ z => some ((), z) from bq_id.symm]
      refine sm_b (s_ncol (w := 0) hc h q e1 e2 (fun m => (hD.1 m).2.1) (fun q => by omega)) (fun _ σ' a ρ' g => ?_) (fun _ _ _ _ g => g.go fun h => h)
      obtain ⟨g1, g2, g3, g4, k, p, v, g5⟩ := g
      rw [bq_e (say_0 (by rw [hc.m g3.2.1, m]))]
      exact sm_ok ⟨g3, fun _ => g2, fun q => by omega⟩
    · obtain ⟨d1, d2, d3, d4, d5, d6, d7, d8, d9, d10, d11, d12, d13, d14⟩ := hD.2 m
      obtain ⟨c1, c2, c3, c4⟩ := (d2.old d1).col d1.1 d3
      have s1 : (zR σ 195 0 0 0).1 = qS x := by rw [d2.2.2.1]
      have s2 : (zR σ 195 0 0 0).2 = dN d := by rw [d2.2.2.1]
      have s3 : (zR σ 198 0 0 0).1 = qS x := by rw [d9]
      have s4 : (zR σ 198 0 0 0).2 = A := by rw [d9]
      obtain ⟨v, hv⟩ : ∃ v, v = nix (fun c => zJ σ 1475 (qS x) A c) (qw x t) (dW d A) 0 := ⟨_, rfl⟩
      have hC : fX7_columnNamed (qS x) A (qw x t) σ = some (v, σ) := by rw [hv]; exact c1.C _
      have hL : fX14_columnOf (nI A) (qw x t) ρ = some (v, ρ) := by rw [hv]; exact c1.L (hc.g h.2.1) _
      have hlk : fX3_lookAtName 5 (qw x t) (nI (qp x t)) σ = bq (if 0 ≤ v then (bq (fX3_addColumn (qw x t) σ) fun v6 σ7 => if v6 = 0 then (bq (fX3_report 5 (nI (qp x t)) σ7) fun _ σ11 => some ((), σ11)) else (bq (fX7_setPart ((zR σ7 195 0 0 0).1) ((zR σ7 195 0 0 0).2) ((zI σ7 201 0 0 0) - 1) v σ7) fun v11 σ12 => some ((), σ12))) else (bq (fX3_report 2 (nI (qp x t)) σ) fun v15 σ16 => some ((), σ16))) fun _ z => some ((), z) := by
        unfold fX3_lookAtName
        rw [if_pos d2.1, if_neg (by decide), if_neg (by decide), if_neg (by decide), if_neg (by decide), if_neg (by decide), if_pos rfl]
        unfold fX3_pickColumn
        rw [s3, s4, bq_e hC]
      rw [m, if_neg (by decide), if_pos (h.g5 hc), h.w9 hc, bq_e hL]
      rcases (nix_r : nix (fun c => zJ σ 1475 (qS x) A c) (qw x t) (dW d A) 0 = -nI 1 ∨ _) with e | ⟨j, hj, e⟩
      · -- not there
        rw [← hv] at e
        obtain ⟨zz, r1, r2⟩ := rep_E (E := (0, 0, 0, 0, 0, σ, σ)) m h.1 h.2.1 d2.1 (a := 2) (b := nI (qp x t)) (by decide) (by decide)
        have hl2 : fX3_lookAtName 5 (qw x t) (nI (qp x t)) σ = some ((), zz) := by rw [hlk, e, if_neg (by decide), bq_e r1, bq_s]
        rw [e, if_pos (show (-nI 1 : Int32) = -1 from rfl)]
        unfold fX14_pickOne_52
        rw [if_pos (h.g5 hc), h.p9 hc]
        exact sm_xw (must_e m hc h.2.1) (s_nmE hc h q hl2 r2)
      · rw [← hv] at e
        have hW6 := c1.2.1
        obtain ⟨σ1, e1, e2⟩ := s_look0 h (by omega) (r := 5) (Or.inr rfl)
        have h0j : (0 : Int32) ≤ nI j := by rw [i_0, n_le (by omega) (by omega)]; omega
        have fresh : (∀ i, i < w → zJ ρ 1936 0 0 i ≠ qw x t) → σ1 = pkC (adN σ w (qw x t)) (qS x) (dN d) w j := fun hn => by
          have ha := ac_C d14.1 d14.2.2.1 (fun i hi => by rw [d14.2.2.2.1 i hi]; exact hn i hi)
          have h201 : zI (adN σ w (qw x t)) 201 0 0 0 = nI (w + 1) := by unfold adN; rw [zI_sI, if_pos ⟨rfl, rfl, rfl, rfl⟩]
          have a1 : (zR (adN σ w (qw x t)) 195 0 0 0).1 = qS x := s1
          have a2 : (zR (adN σ w (qw x t)) 195 0 0 0).2 = dN d := s2
          rw [hlk, e, if_pos h0j, bq_e ha, if10, a1, a2, bq_e (sp_C h201 d14.2.2.1), bq_s] at e1
          cases e1; rfl
        have dup : (∃ i, i < w ∧ zJ ρ 1936 0 0 i = qw x t) → Er x 0 (5, nI (qp x t)) σ1 ρ := fun hn => by
          obtain ⟨i, hi, hi2⟩ := hn
          obtain ⟨zz, r1, r2⟩ := rep_E (E := (0, 0, 0, 0, 0, σ, σ)) m h.1 h.2.1 d2.1 (a := 5) (b := nI (qp x t)) (by decide) (by decide)
          have ha := ac_E d14.1 (by omega) hi ((d14.2.2.2.1 i hi).trans hi2)
          have r0 : Er x 0 (5, nI (qp x t)) zz ρ := r2
          rw [hlk, e, if_pos h0j, bq_e ha, if00, r1, bq_s, bq_s] at e1
          cases e1
          exact r0
        have hcase : (∀ i, i < w → zJ ρ 1936 0 0 i ≠ qw x t) ∨ ∃ i, i < w ∧ zJ ρ 1936 0 0 i = qw x t := by
          by_cases qq : ∃ i, i < w ∧ zJ ρ 1936 0 0 i = qw x t
          · exact Or.inr qq
          · exact Or.inl fun i hi he => qq ⟨i, hi, he⟩
        rw [e, if_neg (n_mx (a := j) (by omega))]
        unfold fX14_pickOne_52
        rw [if_pos (h.g5 hc), bw_e must_1, show fX4_takeName 5 σ = bq (fX4_takeName 5 σ) fun _ z => some ((), z) from bq_id.symm]
        refine sm_b (s_ncol (w := w) hc h q e1 e2 (fun m => (hD.1 m).2.1) (fun _ => ⟨d14.2.1, by omega, hcase.imp id fun k => ⟨dup k, k⟩⟩)) (fun _ σ' a ρ' g => ?_) (fun _ _ _ _ g => g.go fun h => h)
        obtain ⟨rfl, g2, g3, g4, k, p, u, g5⟩ := g
        have e911 : zI ρ' 911 0 0 0 = nI w := by rw [g2, sI_c (by decide)]; exact d14.2.1
        rw [bq_e (say_1 (by rw [hc.m g3.2.1, m]) e911 d14.2.2.1)]
        refine sm_ok ⟨g3.lw g3.2.1.sayR rfl rfl rfl, fun q => by omega, fun _ => ⟨j, hj, g4 m, by rw [g2], k, p, u, ?_⟩⟩
        rw [g5, fresh (g4 m)]
  · obtain ⟨zz, a1, a2⟩ := s_nmN hc h q (r := 5)
    rw [if_neg q, if00, bq_e (h.wr hc), a1]
    exact sm_x a2
end PK
