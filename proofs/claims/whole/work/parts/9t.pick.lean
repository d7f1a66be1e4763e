/-! ITEMS, both: pick, whole -/
section PL
variable {x : Cx} {t : Nat} {σ ρ : Zs} {d : Pd}
theorem SWN.avc {L z np K A w t2 u : Nat} {nm : Int64} {σb ρb : Zs} {a p : Int32} {wd : Int64} (h : SWN x d L z σb ρb nm np K A w t σ ρ) (ht : t ≤ t2) : SWN x d L z σb ρb nm np K A w t2 (avC σ u a p wd) ρ := by
  refine ⟨fun m => h.1 m, fun m => ?_⟩
  obtain ⟨d1, ⟨h1, h2, h3, h4, h5, L', z', h6, h7, h8, h9, h10, h11⟩, d3, d4, d5, d6, d7, d8, d9, d10, d11, d12, d13, d14⟩ := h.2 m
  exact ⟨d1, ⟨h1, h2, h3, h4.av, h5, L', z', h6, h7, by omega, by omega, h10, h11⟩, d3, d4, d5, d6, d7, d8, d9, d10, d11, d12, d13, d14⟩
def PKP (x : Cx) (d : Pd) (A w : Nat) (σ ρ : Zs) : Prop := qM x = 1 → ∀ c, c < w → c < 6 → ∃ j, j < dW d A ∧ zI σ 1483 (qS x) (dN d) c = nI j ∧ zI ρ 1937 0 0 c = nI j
theorem s_pick2 (hc : Cok x) {L z np A w : Nat} {nm : Int64} {σb ρb : Zs} (h : IP x 0 t σ ρ) (hD : SWN x d L z σb ρb nm np 3 A w t σ ρ) (hP : PKP x d A w σ ρ) (hw : w + 1 < 1500) : SM (Er x 0) (fX4_takeName 5 σ) (fX14_pickOne (nI A) ρ) (fun _ σ' _ ρ' => IP x 0 (t + 1) σ' ρ' ∧ SWN x d L z σb ρb nm np 3 A (w + 1) (t + 1) σ' ρ' ∧ PKP x d A (w + 1) σ' ρ') := by
  refine sm_m (s_pick1 hc h hD hw) (fun _ σ' _ ρ' q => ?_)
  obtain ⟨q1, q2, q3⟩ := q
  rcases m01 hc with m | m
  · refine ⟨q1, ⟨fun _ => ?_, fun q => by omega⟩, fun q => by omega⟩
    rw [q2 m]; exact hD.1 m
  · obtain ⟨j, j1, j2, j3, k, p, v, j4⟩ := q3 m
    have s1 : SWN x d L z σb ρb nm np 3 A (w + 1) t (adN σ w (qw x t)) (sayR (sI ρ 905 0 0 0 (nI (t + 1))) w (qw x t) (nI j) 0) := (hD.lI (fun _ => wJ_0 rfl) rfl).add hw m j2
    have s2 : SWN x d L z σb ρb nm np 3 A (w + 1) t (pkC (adN σ w (qw x t)) (qS x) (dN d) w j) (sayR (sI ρ 905 0 0 0 (nI (t + 1))) w (qw x t) (nI j) 0) := by
      unfold pkC
      by_cases q6 : w < 6
      · rw [if_pos q6]; exact s1.cI (wI_S rfl) rfl
      · rw [if_neg q6]; exact s1
    refine ⟨q1, ?_, fun _ c hcw hc6 => ?_⟩
    · rw [j3, j4]; exact s2.avc (Nat.le_succ t)
    · obtain ⟨_, y2, _⟩ := sayR_j (ρ := sI ρ 905 0 0 0 (nI (t + 1))) (w := w) (j := c) (a := qw x t) (s := nI j) (u := 0)
      rw [j3, j4, y2]
      have e0 : zI (avC (pkC (adN σ w (qw x t)) (qS x) (dN d) w j) t k p v) 1483 (qS x) (dN d) c = zI (pkC (adN σ w (qw x t)) (qS x) (dN d) w j) 1483 (qS x) (dN d) c := rfl
      rw [e0]
      have e1 : zI (adN σ w (qw x t)) 1483 (qS x) (dN d) c = zI σ 1483 (qS x) (dN d) c := by unfold adN; rw [sI_c (by decide)]; rfl
      by_cases qc : c = w
      · subst qc
        refine ⟨j, j1, ?_, by rw [if_pos rfl]⟩
        unfold pkC
        rw [if_pos hc6, zI_sI, if_pos ⟨rfl, rfl, rfl, rfl⟩]
      · obtain ⟨i, i1, i2, i3⟩ := hP m c (by omega) hc6
        refine ⟨i, i1, ?_, by rw [if_neg qc]; exact i3⟩
        unfold pkC
        by_cases q6 : w < 6
        · rw [if_pos q6, zI_sI, if_neg (fun z => qc z.2.2.2), e1]; exact i2
        · rw [if_neg q6, e1]; exact i2
theorem s_pickl (hc : Cok x) {L z np A : Nat} {nm : Int64} {σb ρb : Zs} {s : Int32} :
    ∀ (r t w y n m : Nat) (σ ρ : Zs), r + t = 1501 → 1 ≤ w → 1 ≤ y → y + 2 ≤ t → 1500 < n + y → r < m → 2 * w ≤ t + 20 → IP x 0 t σ ρ → SWN x d L z σb ρb nm np 3 A w t σ ρ → PKP x d A w σ ρ → SM (Er x 0) (fX4_takeNames_8 5 n (nI y) σ) (fX14_work_237 s m (nI A) ρ) (fun _ σ' _ ρ' => ∃ t' w', t ≤ t' ∧ 1 ≤ w' ∧ w' < 1500 ∧ IP x 0 t' σ' ρ' ∧ SWN x d L z σb ρb nm np 3 A w' t' σ' ρ' ∧ PKP x d A w' σ' ρ') := by
  intro r
  induction r using Nat.strongRecOn with
  | ind r ih =>
    intro t w y n m σ ρ h1 h2 h3 h4 h5 h6 h7 h hD hP
    have ht := h.t5 hc
    obtain ⟨n, rfl⟩ : ∃ j, n = j + 1 := ⟨n - 1, by omega⟩
    obtain ⟨m, rfl⟩ : ∃ j, m = j + 1 := ⟨m - 1, by omega⟩
    have kl : ∀ y n, y ≤ 1500 → 1500 - y < n → ∀ σ0 z, St (qS x) 0 σ0 z → Wp1 (fX4_takeNames_8 5 n (nI y) z) fun _ => St (qS x) 0 σ0 := fun y n hy hn σ0 z h => kl_names (1500 - y) y n (by omega) hn _ _ h
    have hv := h.vk hc
    rw [fX4_takeNames_8, i_1500, if_neg (fun z => by have := (n_le (by omega) (by omega)).mp z; omega), if_neg (show ¬ (nI y : Int32) = 0 by rw [i_0, n_eq (by omega) (by omega)]; omega), h.c0, fX14_work_237, bq_e (show fX14_is 102 ρ = _ from h.is hc 102 (by decide))]
    by_cases q : qk x t = 102
    · obtain ⟨σ2, a1, a2, a3, ⟨ka, kp', kw, a4⟩, _⟩ := s_tk hc h (by omega)
      have hcm : fX4_takeComma (nI y) σ = some ((), σ2) := by
        unfold fX4_takeComma
        rw [if_neg (show ¬ (nI y : Int32) ≤ 0 by rw [i_0, n_le (by omega) (by omega)]; omega), bq_e (a1 44 (by rw [q]; rfl))]
      rw [if_pos (show ck (qk x t) = 44 by rw [q]; rfl), if_pos q, if10, bw_e a2, bq_e hcm]
      have hD2 : SWN x d L z σb ρb nm np 3 A w (t + 1) σ2 (sI ρ 905 0 0 0 (nI (t + 1))) := by rw [a4]; exact hD.av (Nat.le_succ t)
      have hP2 : PKP x d A w σ2 (sI ρ 905 0 0 0 (nI (t + 1))) := by rw [a4]; exact hP
      refine sm_b (s_pick2 hc a3 hD2 hP2 (by omega)) (fun _ σ3 _ ρ3 g => ?_) (fun _ _ _ _ g => g.go fun h => ?_)
      · obtain ⟨g1, g2, g3⟩ := g
        have ht2 := g1.t5 hc
        rw [i_1, n_add]
        refine sm_m (ih (1501 - (t + 1 + 1)) (by omega) (t + 1 + 1) (w + 1) (y + 1) n m σ3 ρ3 (by omega) (by omega) (by omega) (by omega) (by omega) (by omega) (by omega) g1 g2 g3) (fun _ _ _ _ ⟨t', w', k1, k2⟩ => ⟨t', w', by omega, k2⟩)
      · rw [i_1, n_add]; exact kl (y + 1) n (by omega) (by omega) _ _ h
    · rw [if_neg (show ¬ ck (qk x t) = 44 from ck_ne (j := 102) hv.1 rfl q), if_neg q, if00]
      refine sm_b (s_take hc h (K := 101) rfl (by decide) (show ck 101 = 41 from rfl)) (fun _ σ2 _ ρ2 q2 => ?_) (fun _ _ _ _ g => g.go fun h => h)
      obtain ⟨q3, q4, ⟨ka, kp', kw, rfl⟩, rfl⟩ := q2
      exact sm_ok ⟨t + 1, w, Nat.le_succ t, h2, by omega, q4, hD.av (Nat.le_succ t), hP⟩
noncomputable def lPick (n w12 : Int32) (ρ23 : Zs) : Option (Except (Int32 × Int32) Unit × Zs) := bw (fX14_take_ 100 ρ23) fun w127 ρ124 => bw (fX14_pickOne w12 ρ124) fun w132 ρ129 => fX14_work_237 n FU w12 ρ129
theorem x_pick (hc : Cok x) {L z np A wp : Nat} {nm : Int64} {σb ρb : Zs} (ht2 : 2 ≤ t) (h : IP x 0 t σ ρ) (hD : SWK x d L z σb ρb nm np 3 A wp t σ ρ) : SM (Er x 0) (fX4_takeNames 5 σ) (lPick (nI (sIdx x d)) (nI A) ρ) (fun _ σ' _ ρ' => ∃ t', t ≤ t' ∧ IP x 0 t' σ' ρ' ∧ FIN x d t' nm np σ' ρ') := by
  have ht := h.t5 hc
  have hFU : FU = 19999 + 1 := rfl
  unfold lPick fX4_takeNames
  have kl : ∀ y n, y ≤ 1500 → 1500 - y < n → ∀ σ0 z, St (qS x) 0 σ0 z → Wp1 (fX4_takeNames_8 5 n (nI y) z) fun _ => St (qS x) 0 σ0 := fun y n hy hn σ0 z h => kl_names (1500 - y) y n (by omega) hn _ _ h
  refine sm_b (s_take hc h (K := 100) rfl (by decide) (show ck 100 = 40 from rfl)) (fun _ σ2 _ ρ2 q => ?_) (fun _ _ _ _ g => g.go fun h => kl 0 FU (by omega) (by rw [hFU]; omega) _ _ h)
  obtain ⟨q1, q2, ⟨ka, kp, kw, q3⟩, q4⟩ := q
  have D2 : SWN x d L z σb ρb nm np 3 A 0 (t + 1) σ2 ρ2 := by rw [q3, q4]; exact (hD.swn (Or.inl rfl)).av (Nat.le_succ t)
  have hcn : fX4_takeNames_8 5 FU 0 σ2 = bq (fX4_takeName 5 σ2) fun _ z => fX4_takeNames_8 5 19999 (nI 1) z := by
    rw [hFU, fX4_takeNames_8, i_1500, if_neg (show ¬ nI 1500 ≤ (0 : Int32) by decide), if_pos rfl]
    unfold fX4_takeComma
    rw [if_pos (by decide), bq_s]
    rfl
  rw [hcn]
  refine sm_b (s_pick2 hc q2 D2 (fun _ c hcw => absurd hcw (Nat.not_lt_zero _)) (by decide)) (fun _ σ3 _ ρ3 g => ?_) (fun _ _ _ _ g => g.go fun h => kl 1 19999 (by omega) (by omega) _ _ h)
  obtain ⟨g1, g2, g3⟩ := g
  have ht3 := g1.t5 hc
  refine sm_m (s_pickl hc (1501 - (t + 1 + 1)) (t + 1 + 1) 1 1 19999 FU σ3 ρ3 (by omega) (by omega) (by omega) (by omega) (by omega) (by rw [hFU]; omega) (by omega) g1 g2 g3) (fun _ σ4 _ ρ4 q => ?_)
  obtain ⟨t', w, e1, e2, e3, e4, e5, e6⟩ := q
  refine ⟨t', by omega, e4, fun m => ⟨(e5.1 m).1, (e5.1 m).2.1⟩, fun m => ?_⟩
  obtain ⟨d1, d2, d3, d4, d5, d6, d7, d8, d9, d10, d11, d12, d13, d14⟩ := e5.2 m
  obtain ⟨_, _, _, _, _, L', z', f1, f2, f3, f4, f5, f6⟩ := id d2
  obtain ⟨c1, c2, c3, c4⟩ := (d2.old d1).col d1.1 d3
  obtain ⟨b1, b2, b3', b4', b5⟩ := id d1
  have y1 : (zR σ4 195 0 0 0).1 = qS x := by rw [d2.2.2.1]
  have y2 : (zR σ4 195 0 0 0).2 = dN d := by rw [d2.2.2.1]
  refine ⟨end_eq d2.1 (by rw [y1, y2, d5]; decide) (by rw [y1, y2, d5]; decide), d8, w, d2.1, d14.1, d14.2.1, by omega, fun w6 => ?_⟩
  -- the parts
  obtain ⟨P, hP⟩ : ∃ P : Nat → Nat, ∀ c, c < w → P c < dW d A ∧ zI σ4 1483 (qS x) (dN d) c = nI (P c) ∧ zI ρ4 1937 0 0 c = nI (P c) := by
    refine ⟨fun c => (zI σ4 1483 (qS x) (dN d) c).toNatClampNeg, fun c hcw => ?_⟩
    obtain ⟨j, j1, j2, j3⟩ := e6 m c hcw (by omega)
    have hW6 := c1.2.1
    have ej : (zI σ4 1483 (qS x) (dN d) c).toNatClampNeg = j := by rw [j2]; exact n_cl (by omega)
    show _ < _ ∧ _ = nI _ ∧ _ = nI _
    dsimp only
    rw [ej]
    exact ⟨j1, j2, j3⟩
  refine ⟨b1, b3', L, z, L', z', 3, A, 50, 0, 0, 0, 0, P, fun c => zJ σ4 1224 0 0 c, fun _ => [], σb, ρb, b2, d2.2.2.1, d2.2.2.2.1, d2.2.2.2.2.1, f1, f3, f2, f4, f5, f6, fun c hcw => ⟨rfl, (d14.2.2.2.1 c hcw).symm⟩, d14.2.2.2.2, Or.inl d3, Or.inr (Nat.le_refl _), ?_, ?_, ?_, b4', b5⟩
  · refine ⟨d4, d5, ?_, ?_, fun q => by omega, fun q => by omega, fun q => by omega, fun q => by omega, fun _ c hcw => (hP c hcw).2.1, fun q => by omega, fun c q => by omega⟩
    · rw [if_neg (by decide)]; exact d6
    · rw [if_neg (by decide)]; exact d7
  · refine ⟨d10, ?_, ?_, fun q => by omega, fun q => by omega, fun q => by omega, fun q => by omega, fun _ c hcw => (hP c hcw).2.2, fun q => by omega, fun q => by omega, fun c q => by omega⟩
    · rw [if_neg (by decide)]; exact d11
    · rw [if_neg (by decide)]; exact d12
  · exact ⟨by decide, e2, w6, by omega, by omega, fun _ => d3, fun q => by omega, fun q => by omega, fun q => by omega, fun _ c hcw => (hP c hcw).1, fun q => by omega, fun q => by omega, fun q => by omega, fun q => by omega⟩
end PL
