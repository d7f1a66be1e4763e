/-! ITEMS, both: make, its loop -/
section MC
variable {x : Cx} {t : Nat} {σ ρ : Zs} {d : Pd}
theorem kl_newc {S : Nat} {σ0 : Zs} : ∀ (k y n : Nat) (z : Zs), y + k = 1500 → k < n → St S 0 σ0 z → Wp1 (fX4_newColumns_9 n (nI y) z) fun _ => St S 0 σ0 := by
  intro k
  induction k with
  | zero =>
    intro y n z h1 h2 h
    obtain ⟨n, rfl⟩ : ∃ j, n = j + 1 := ⟨n - 1, by omega⟩
    rw [fX4_newColumns_9, i_1500, if_pos ((n_le (by omega) (by omega)).mpr (by omega))]
    exact h
  | succ k ih =>
    intro y n z h1 h2 h
    obtain ⟨n, rfl⟩ : ∃ j, n = j + 1 := ⟨n - 1, by omega⟩
    have g : Wp1 (fX4_newColumns_29 (fun by1 σb => fX4_newColumns_9 n by1 σb) (nI y) z) fun _ => St S 0 σ0 := by
      unfold fX4_newColumns_29
      refine kb (k_takeComma h) fun _ _ h => kb (k_takeName h (by omega) (Or.inr rfl)) fun _ _ h => kb (k_take h) fun _ _ h => kb (k_whole h (by omega)) fun _ z h => ?_
      rw [i_1, n_add]
      exact ih (y + 1) n z (by omega) (by omega) h
    rw [fX4_newColumns_9, i_1500, if_neg (fun z => by have := (n_le (by omega) (by omega)).mp z; omega)]
    repeat (first | exact g | exact h | split)
theorem nc29 {k9 : Int32 → Zs → Option (Unit × Zs)} {y : Int32} : fX4_newColumns_29 k9 y σ = bq (fX4_takeComma y σ) fun _ z => bq (cMk z) fun _ z => k9 (y + 1) z := by
  unfold fX4_newColumns_29 cMk
  refine congrArg _ (funext fun _ => funext fun z => ?_)
  rw [bq_as]
  refine congrArg _ (funext fun _ => funext fun z => ?_)
  rw [bq_as]
theorem s_makel (hc : Cok x) {L z np A lo : Nat} {nm : Int64} {σb ρb : Zs} {s : Int32} :
    ∀ (r t w y n m : Nat) (σ ρ : Zs), r + t = 1501 → 1 ≤ y → y + 2 ≤ t → 1500 < n + y → r < m → 2 * w ≤ t + 20 → IP x 0 t σ ρ → SWN x d L z σb ρb nm np 2 A w t σ ρ → MKP x d A lo w σ ρ → MK8 x lo w ρ → SM (Er x 0) (fX4_newColumns_9 n (nI y) σ) (fX14_work_199 s m ρ) (fun _ σ' _ ρ' => ∃ t' w', t ≤ t' ∧ w ≤ w' ∧ w' < 1500 ∧ IP x 0 t' σ' ρ' ∧ SWN x d L z σb ρb nm np 2 A w' t' σ' ρ' ∧ MKP x d A lo w' σ' ρ' ∧ MK8 x lo w' ρ') := by
  intro r
  induction r using Nat.strongRecOn with
  | ind r ih =>
    intro t w y n m σ ρ h1 h3 h4 h5 h6 h7 h hD hP h8
    have ht := h.t5 hc
    obtain ⟨n, rfl⟩ : ∃ j, n = j + 1 := ⟨n - 1, by omega⟩
    obtain ⟨m, rfl⟩ : ∃ j, m = j + 1 := ⟨m - 1, by omega⟩
    have hv := h.vk hc
    rw [fX4_newColumns_9, i_1500, if_neg (fun z => by have := (n_le (by omega) (by omega)).mp z; omega), if_neg (show ¬ (nI y : Int32) = 0 by rw [i_0, n_eq (by omega) (by omega)]; omega), h.c0, fX14_work_199, bq_e (show fX14_is 102 ρ = _ from h.is hc 102 (by decide))]
    by_cases q : qk x t = 102
    · obtain ⟨σ2, a1, a2, a3, ⟨ka, kp', kw, a4⟩, _⟩ := s_tk hc h (by omega)
      have hcm : fX4_takeComma (nI y) σ = some ((), σ2) := by
        unfold fX4_takeComma
        rw [if_neg (show ¬ (nI y : Int32) ≤ 0 by rw [i_0, n_le (by omega) (by omega)]; omega), bq_e (a1 44 (by rw [q]; rfl))]
      rw [if_pos (show ck (qk x t) = 44 by rw [q]; rfl), if_pos q, if10, bw_e a2, nc29, bq_e hcm]
      have hD2 : SWN x d L z σb ρb nm np 2 A w (t + 1) σ2 (sI ρ 905 0 0 0 (nI (t + 1))) := by rw [a4]; exact hD.av (Nat.le_succ t)
      have hP2 : MKP x d A lo w σ2 (sI ρ 905 0 0 0 (nI (t + 1))) := by rw [a4]; exact hP
      have h82 : MK8 x lo w (sI ρ 905 0 0 0 (nI (t + 1))) := h8
      refine sm_b (s_make1 hc a3 hD2 hP2 h82 (by omega)) (fun _ σ3 _ ρ3 g => ?_) (fun _ _ _ _ g => g.go fun h => ?_)
      · obtain ⟨t', g0, g1, g2, g3, g4⟩ := g
        have ht2 := g1.t5 hc
        rw [i_1, n_add]
        refine sm_m (ih (1501 - t') (by omega) t' (w + 1) (y + 1) n m σ3 ρ3 (by omega) (by omega) (by omega) (by omega) (by omega) (by omega) g1 g2 g3 g4) (fun _ _ _ _ ⟨t2, w', k1, k2, k3⟩ => ⟨t2, w', by omega, by omega, k3⟩)
      · rw [i_1, n_add]; exact kl_newc (1500 - (y + 1)) (y + 1) n _ (by omega) (by omega) h
    · rw [if_neg (show ¬ ck (qk x t) = 44 from ck_ne (j := 102) hv.1 rfl q), if_neg q, if00]
      exact sm_ok ⟨t, w, Nat.le_refl _, Nat.le_refl _, by omega, h, hD, hP, h8⟩
noncomputable def lMake (n w12 : Int32) (ρ23 : Zs) : Option (Except (Int32 × Int32) Unit × Zs) := bq (fX14_sayAll w12 (-1) ρ23) fun v152 ρ153 => bw (fX14_take_ 6 ρ153) fun w160 ρ157 => bw (fX14_makeOne  ρ157) fun w165 ρ162 => fX14_work_199 n  FU  ρ162
theorem x_make (hc : Cok x) {L z np A wp : Nat} {nm : Int64} {σb ρb : Zs} (ht2 : 2 ≤ t) (h : IP x 0 t σ ρ) (hD : SWK x d L z σb ρb nm np 2 A wp t σ ρ) : SM (Er x 0) (fX4_newColumns σ) (lMake (nI (sIdx x d)) (nI A) ρ) (fun _ σ' _ ρ' => ∃ t', t ≤ t' ∧ IP x 0 t' σ' ρ' ∧ FIN x d t' nm np σ' ρ') := by
  have ht := h.t5 hc
  have hFU : FU = 19999 + 1 := rfl
  obtain ⟨w0, ρ1, hsa, hw0, hI1, hD1, hP1, h81, hwA⟩ : ∃ w0 ρ1, fX14_sayAll (nI A) (-1) ρ = some ((), ρ1) ∧ w0 ≤ 6 ∧ IP x 0 t σ ρ1 ∧ SWN x d L z σb ρb nm np 2 A w0 t σ ρ1 ∧ MKP x d A (dW d A) w0 σ ρ1 ∧ MK8 x (dW d A) w0 ρ1 ∧ (qM x = 1 → w0 = dW d A) := by
    rcases m01 hc with m | m
    · exact ⟨0, ρ, sa_0 (by rw [hc.m h.2.1, m]), by decide, h, ⟨hD.1, fun q => by omega⟩, fun q => by omega, fun q => by omega, fun q => by omega⟩
    · obtain ⟨d1, d2, d3, d4, d5, d6, d7, d8, d9, d10, d11, d12, d13, d14, d15, d16, d17⟩ := hD.2 m
      obtain ⟨c1, c2, c3, c4⟩ := (d2.old d1).col d1.1 d3
      have hW := c1.2.1
      obtain ⟨ρ6, u1, u2, u3, u4, u5, u6, u7, u8⟩ := s_all hc m d1 d3 d2 h d15
      obtain ⟨_, _, _, _, _, L', z', f1, f2, f3, f4, f5, f6⟩ := id u7
      have dk := d17 (by decide)
      refine ⟨dW d A, ρ6, u1, hW, u8, ⟨fun q => by omega, fun _ => ⟨d1, u7, d3, d4, d5, d6, d7, d8, d10, (u4 _ _ _ _ (by decide)).trans d11, (u4 _ _ _ _ (by decide)).trans d12, (u4 _ _ _ _ (by decide)).trans d13, (u4 _ _ _ _ (by decide)).trans d14, dk.1, u2, by omega, fun j hj => (dk.2 j hj).trans (u3 j hj).1.symm, fun i j hi hj e => d1.1.2.2.1 A d3 i j hi hj (by rw [← dk.2 i hi, ← dk.2 j hj]; exact e)⟩⟩, fun _ => ⟨L', z', by omega, by omega, f5, f6, fun c a1 a2 => absurd a2 (by omega)⟩, fun _ c a1 a2 => absurd a2 (by omega), fun _ => rfl⟩
  unfold lMake fX4_newColumns
  rw [bq_e hsa]
  refine sm_b (s_take hc hI1 (K := 6) rfl (by decide) (show ck 6 = 134 from rfl)) (fun _ σ2 _ ρ2 q => ?_) (fun _ _ _ _ g => g.go fun h => kl_newc 1500 0 FU _ (by omega) (by rw [hFU]; omega) h)
  obtain ⟨q1, q2, ⟨ka, kp, kw, q3⟩, q4⟩ := q
  have D2 : SWN x d L z σb ρb nm np 2 A w0 (t + 1) σ2 ρ2 := by rw [q3, q4]; exact hD1.av (Nat.le_succ t)
  have P2 : MKP x d A (dW d A) w0 σ2 ρ2 := by rw [q3, q4]; exact hP1
  have E2 : MK8 x (dW d A) w0 ρ2 := by rw [q4]; exact h81
  have hcn : fX4_newColumns_9 FU 0 σ2 = bq (cMk σ2) fun _ z => fX4_newColumns_9 19999 (nI 1) z := by
    rw [hFU, fX4_newColumns_9, i_1500, if_neg (show ¬ nI 1500 ≤ (0 : Int32) by decide), if_pos rfl, nc29]
    unfold fX4_takeComma
    rw [if_pos (by decide), bq_s]
    rfl
  rw [hcn]
  refine sm_b (s_make1 hc q2 D2 P2 E2 (by omega)) (fun _ σ3 _ ρ3 g => ?_) (fun _ _ _ _ g => g.go fun h => kl_newc 1499 1 19999 _ (by omega) (by omega) h)
  obtain ⟨t3, g0, g1, g2, g3, g4⟩ := g
  have ht3 := g1.t5 hc
  refine sm_m (s_makel hc (1501 - t3) t3 (w0 + 1) 1 19999 FU σ3 ρ3 (by omega) (by omega) (by omega) (by omega) (by rw [hFU]; omega) (by omega) g1 g2 g3 g4) (fun _ σ4 _ ρ4 q => ?_)
  obtain ⟨t', w, e1, e2, e3, e4, e5, e6, e7⟩ := q
  refine ⟨t', by omega, e4, fun m => ⟨(e5.1 m).1, (e5.1 m).2.1⟩, fun m => ?_⟩
  obtain ⟨d1, d2, d3, d4, d5, d6, d7, d8, d9, d10, d11, d12, d13, d14⟩ := e5.2 m
  obtain ⟨_, _, _, _, _, L', z', f1, f2, f3, f4, f5, f6⟩ := id d2
  obtain ⟨c1, c2, c3, c4⟩ := (d2.old d1).col d1.1 d3
  obtain ⟨b1, b2, b3', b4', b5⟩ := id d1
  have y1 : (zR σ4 195 0 0 0).1 = qS x := by rw [d2.2.2.1]
  have y2 : (zR σ4 195 0 0 0).2 = dN d := by rw [d2.2.2.1]
  have hA0 := hwA m
  refine ⟨end_eq d2.1 (by rw [y1, y2, d5]; decide) (by rw [y1, y2, d5]; decide), d8, w, d2.1, d14.1, d14.2.1, by omega, fun w6 => ?_⟩
  obtain ⟨Lc, zc, l1, l2, l3, l4, l5⟩ := e6 m
  have ht' := e4.t5 hc
  have eL : Lc = L' := (n_eq (by omega) (by omega)).mp (l3.symm.trans f5)
  have ez : zc = z' := (n_eq (by omega) (by omega)).mp (l4.symm.trans f6)
  subst eL ez
  have hcode : ∀ c, ∃ l : List Op, dW d A ≤ c → c < w → ∃ a b, zI σ4 1481 (qS x) (dN d) c = nI a ∧ zI σ4 1482 (qS x) (dN d) c = nI (a + l.length) ∧ a + l.length ≤ Lc ∧ Cg (qS x) σ4 a l ∧ zI ρ4 1937 0 0 c = nI b ∧ b + l.length < zc ∧ Rg (qG x) ρ4 b l ∧ okO (dW d A) l := fun c => by
    by_cases qc : dW d A ≤ c ∧ c < w
    · obtain ⟨a, b, l, k⟩ := l5 c qc.1 qc.2 (by omega) (by rw [e7 m c qc.1 qc.2]; decide)
      exact ⟨l, fun _ _ => ⟨a, b, k⟩⟩
    · exact ⟨[], fun k1 k2 => absurd ⟨k1, k2⟩ qc⟩
  obtain ⟨o, ho⟩ : ∃ o : Nat → List Op, ∀ c, dW d A ≤ c → c < w → ∃ a b, zI σ4 1481 (qS x) (dN d) c = nI a ∧ zI σ4 1482 (qS x) (dN d) c = nI (a + (o c).length) ∧ a + (o c).length ≤ Lc ∧ Cg (qS x) σ4 a (o c) ∧ zI ρ4 1937 0 0 c = nI b ∧ b + (o c).length < zc ∧ Rg (qG x) ρ4 b (o c) ∧ okO (dW d A) (o c) := ⟨fun c => Classical.choose (hcode c), fun c => Classical.choose_spec (hcode c)⟩
  refine ⟨b1, b3', L, z, Lc, zc, 2, A, 50, 0, 0, 0, 0, fun _ => 0, fun c => zJ σ4 1224 0 0 c, o, σb, ρb, b2, d2.2.2.1, d2.2.2.2.1, d2.2.2.2.2.1, f1, f3, f2, f4, f5, f6, fun c hcw => ⟨rfl, (d14.2.2.2.1 c hcw).symm⟩, d14.2.2.2.2, Or.inl d3, Or.inr (Nat.le_refl _), ?_, ?_, ?_, b4', b5⟩
  · refine ⟨d4, d5, ?_, ?_, fun q => by omega, fun q => by omega, fun q => by omega, fun q => by omega, fun q => by omega, fun q => by omega, fun c q => ?_⟩
    · rw [if_neg (by decide)]; exact d6
    · rw [if_neg (by decide)]; exact d7
    · obtain ⟨a, b, k1, k2, k3, k4, _⟩ := ho c (by omega) (by omega)
      exact ⟨a, k1, k2, k3, k4⟩
  · refine ⟨d10, ?_, ?_, fun q => by omega, fun q => by omega, fun q => by omega, fun q => by omega, fun q => by omega, fun q => by omega, fun q => by omega, fun c q => ?_⟩
    · rw [if_neg (by decide)]; exact d11
    · rw [if_neg (by decide)]; exact d12
    · obtain ⟨a, b, k1, k2, k3, k4, k5, k6, k7, k8⟩ := ho c (by omega) (by omega)
      exact ⟨b, k5, k6, k7⟩
  · refine ⟨by decide, by omega, w6, by omega, by omega, fun _ => d3, fun q => by omega, fun q => by omega, fun _ => ⟨by omega, fun c k1 k2 => ?_⟩, fun q => by omega, fun q => by omega, fun q => by omega, fun q => by omega, fun q => by omega⟩
    obtain ⟨a, b, _, _, _, _, _, _, _, k8⟩ := ho c k1 k2
    exact k8
end MC
