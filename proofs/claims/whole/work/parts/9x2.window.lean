/-! ITEMS, both: window: the totals -/
section WK
variable {x : Cx} {t : Nat} {σ ρ : Zs} {d : Pd}
theorem kl_win {S : Nat} {σ0 : Zs} : ∀ (k y n : Nat) (z : Zs), y + k = 1500 → k < n → St S 0 σ0 z → Wp1 (fX4_window_44 n (nI y) z) fun _ => St S 0 σ0 := by
  intro k
  induction k with
  | zero =>
    intro y n z h1 h2 h
    obtain ⟨n, rfl⟩ : ∃ j, n = j + 1 := ⟨n - 1, by omega⟩
    rw [fX4_window_44, i_1500, if_pos ((n_le (by omega) (by omega)).mpr (by omega))]
    exact kb (k_take h) fun _ _ h => h
  | succ k ih =>
    intro y n z h1 h2 h
    obtain ⟨n, rfl⟩ : ∃ j, n = j + 1 := ⟨n - 1, by omega⟩
    have g : Wp1 (fX4_window_64 (fun by1 σb => fX4_window_44 n by1 σb) (nI y) z) fun _ => St S 0 σ0 := by
      rw [w59_e]
      refine kb (k_takeComma h) fun _ _ h => kb (k_cTot h) fun _ z h => ?_
      rw [i_1, n_add]
      exact ih (y + 1) n z (by omega) (by omega) h
    rw [fX4_window_44, i_1500, if_neg (fun z => by have := (n_le (by omega) (by omega)).mp z; omega)]
    exact wp_ite g (wp_ite g (kb (k_take h) fun _ _ h => h))
theorem s_totl (hc : Cok x) {L z np A lo Y Sp La : Nat} {nm : Int64} {σb ρb : Zs} {s1 s2 : Int32} :
    ∀ (r t w y n m : Nat) (σ ρ : Zs), r + t = 1501 → 1 ≤ y → y + 2 ≤ t → 1500 < n + y → r < m → 2 * w ≤ t + 20 → IP x 0 t σ ρ → SWN x d L z σb ρb nm np 7 A w t σ ρ → MKP x d A lo w σ ρ → WKP x d lo w σ ρ → WX x d Y Sp La σ ρ → SM (Er x 0) (fX4_window_44 n (nI y) σ) (fX14_window_145 s1 s2 m ρ) (fun _ σ' _ ρ' => ∃ t' w', t ≤ t' ∧ w ≤ w' ∧ w' < 1500 ∧ IP x 0 t' σ' ρ' ∧ SWN x d L z σb ρb nm np 7 A w' t' σ' ρ' ∧ MKP x d A lo w' σ' ρ' ∧ WKP x d lo w' σ' ρ' ∧ WX x d Y Sp La σ' ρ') := by
  intro r
  induction r using Nat.strongRecOn with
  | ind r ih =>
    intro t w y n m σ ρ h1 h3 h4 h5 h6 h7 h hD hP hK hX
    have ht := h.t5 hc
    obtain ⟨n, rfl⟩ : ∃ j, n = j + 1 := ⟨n - 1, by omega⟩
    obtain ⟨m, rfl⟩ : ∃ j, m = j + 1 := ⟨m - 1, by omega⟩
    have hv := h.vk hc
    rw [fX4_window_44, i_1500, if_neg (fun z => by have := (n_le (by omega) (by omega)).mp z; omega), if_neg (show ¬ (nI y : Int32) = 0 by rw [i_0, n_eq (by omega) (by omega)]; omega), h.c0, fX14_window_145, bq_e (show fX14_is 102 ρ = _ from h.is hc 102 (by decide))]
    by_cases q : qk x t = 102
    · obtain ⟨σ2, a1, a2, a3, ⟨ka, kp', kw, a4⟩, _⟩ := s_tk hc h (by omega)
      have hcm : fX4_takeComma (nI y) σ = some ((), σ2) := by
        unfold fX4_takeComma
        rw [if_neg (show ¬ (nI y : Int32) ≤ 0 by rw [i_0, n_le (by omega) (by omega)]; omega), bq_e (a1 44 (by rw [q]; rfl))]
      rw [if_pos (show ck (qk x t) = 44 by rw [q]; rfl), if_pos q, if10, bw_e a2, w59_e, bq_e hcm]
      have hD2 : SWN x d L z σb ρb nm np 7 A w (t + 1) σ2 (sI ρ 905 0 0 0 (nI (t + 1))) := by rw [a4]; exact hD.av (Nat.le_succ t)
      have hP2 : MKP x d A lo w σ2 (sI ρ 905 0 0 0 (nI (t + 1))) := by rw [a4]; exact hP
      have hK2 : WKP x d lo w σ2 (sI ρ 905 0 0 0 (nI (t + 1))) := by rw [a4]; exact hK
      have hX2 : WX x d Y Sp La σ2 (sI ρ 905 0 0 0 (nI (t + 1))) := by rw [a4]; exact hX
      refine sm_b (s_tot1 hc a3 hD2 hP2 hK2 hX2 (by omega)) (fun _ σ3 _ ρ3 g => ?_) (fun _ _ _ _ g => g.go fun h => ?_)
      · obtain ⟨t', g0, g1, g2, g3, g4, g5⟩ := g
        have ht2 := g1.t5 hc
        rw [i_1, n_add]
        refine sm_m (ih (1501 - t') (by omega) t' (w + 1) (y + 1) n m σ3 ρ3 (by omega) (by omega) (by omega) (by omega) (by omega) (by omega) g1 g2 g3 g4 g5) (fun _ _ _ _ ⟨t2, w', k1, k2, k3⟩ => ⟨t2, w', by omega, by omega, k3⟩)
      · rw [i_1, n_add]; exact kl_win (1500 - (y + 1)) (y + 1) n _ (by omega) (by omega) h
    · rw [if_neg (show ¬ ck (qk x t) = 44 from ck_ne (j := 102) hv.1 rfl q), if_neg q, if00]
      refine sm_b (s_take hc h (K := 101) rfl (by decide) (show ck 101 = 41 from rfl)) (fun _ σ2 _ ρ2 q2 => ?_) (fun _ _ _ _ g => g.go fun h => h)
      obtain ⟨q3, q4, ⟨ka, kp', kw, rfl⟩, rfl⟩ := q2
      exact sm_ok ⟨t + 1, w, Nat.le_succ t, Nat.le_refl _, by omega, q4, hD.av (Nat.le_succ t), hP, hK, hX⟩
/-- behind the key: the class has both names -/
def SW7 (x : Cx) (d : Pd) (L z : Nat) (σb ρb : Zs) (nm : Int64) (np A : Nat) (a : Int64) (t : Nat) (σ ρ : Zs) : Prop :=
  (qM x = 0 → M0 x ρ ∧ zI ρ 911 0 0 0 = nI 0 ∧ A = 0) ∧ (qM x = 1 → HB x d L z nm σb ρb ∧ SIx x d L z σb ρb t σ ρ ∧ A < dN d ∧ zJ σ 448 (qS x) (dN d) 0 = nm ∧ zI σ 449 (qS x) (dN d) 0 = nI 7 ∧ zI σ 1476 (qS x) (dN d) 0 = nI A ∧ zI σ 1476 (qS x) (dN d) 1 = -1 ∧ zI σ 202 0 0 0 = nI np ∧ zR σ 198 0 0 0 = (qS x, A)
    ∧ zI ρ 1794 (qG x) 0 (dN d) = nI 7 ∧ zI ρ 1797 (qG x) 0 (dN d) = nI A ∧ zI ρ 1798 (qG x) 0 (dN d) = -1 ∧ zI ρ 910 0 0 0 = nI A ∧ zI ρ 911 0 0 0 = nI 0 ∧ zI σ 201 0 0 0 = nI 2 ∧ zJ σ 1224 0 0 0 = a ∧ zJ σ 1224 0 0 1 = 422608071022 ∧ a ≠ 422608071022)
theorem SW7.av {L z np A t2 u : Nat} {nm : Int64} {σb ρb : Zs} {a : Int64} {k q : Int32} {v : Int32} {wd : Int64} (h : SW7 x d L z σb ρb nm np A a t σ ρ) (ht : t ≤ t2) : SW7 x d L z σb ρb nm np A a t2 (avC σ u k q wd) (sI ρ 905 0 0 0 v) := by
  refine ⟨fun m => h.1 m, fun m => ?_⟩
  obtain ⟨d1, d2, d3⟩ := h.2 m
  exact ⟨d1, d2.av' ht, d3⟩
theorem SW7.cI {L z np A : Nat} {nm : Int64} {σb ρb : Zs} {a : Int64} {c q s i : Nat} {v : Int32} (h : SW7 x d L z σb ρb nm np A a t σ ρ) (hw : wI (qS x) (dN d) (dM d) c q s = true) (hn : [326, 1348, 192, 197, 449, 1476, 202, 201].contains c = false) : SW7 x d L z σb ρb nm np A a t (sI σ c q s i v) ρ := by
  simp only [List.contains_cons, List.contains_nil, Bool.or_false, Bool.or_eq_false_iff, beq_eq_false_iff_ne] at hn
  obtain ⟨n1, n2, n3, n4, n5, n6, n7, n9⟩ := hn
  refine ⟨fun m => h.1 m, fun m => ?_⟩
  obtain ⟨d1, d2, d3, d4, d5, d6, d7, d8, d9, d10, d11, d12, d13, d14, d15, d16⟩ := h.2 m
  exact ⟨d1, d2.cI hw ⟨n1, n2, n3, n4⟩, d3, d4, (sI_c (fun z => n5 z.symm)).trans d5, (sI_c (fun z => n6 z.symm)).trans d6, (sI_c (fun z => n6 z.symm)).trans d7, (sI_c (fun z => n7 z.symm)).trans d8, d9, d10, d11, d12, d13, d14, (sI_c (fun z => n9 z.symm)).trans d15, d16⟩
theorem SW7.lI {L z np A : Nat} {nm : Int64} {σb ρb : Zs} {a : Int64} {c q s i : Nat} {v : Int32} (h : SW7 x d L z σb ρb nm np A a t σ ρ) (hw : qM x = 1 → wJ (qG x) (dN d) c q i = true) (hn : [785, 1810, 768, 781, 1795, 911, 1794, 1797, 1798, 910].contains c = false) : SW7 x d L z σb ρb nm np A a t σ (sI ρ c q s i v) := by
  simp only [List.contains_cons, List.contains_nil, Bool.or_false, Bool.or_eq_false_iff, beq_eq_false_iff_ne] at hn
  obtain ⟨n1, n2, n3, n4, n5, n6, n7, n8, n9, n10⟩ := hn
  refine ⟨fun m => ⟨(h.1 m).1.I ⟨n3, n4, n5⟩, (sI_c (fun z => n6 z.symm)).trans (h.1 m).2.1, (h.1 m).2.2⟩, fun m => ?_⟩
  obtain ⟨d1, d2, d3, d4, d5, d6, d7, d8, d9, d10, d11, d12, d13, d14, d15, d16⟩ := h.2 m
  exact ⟨d1, d2.lI (hw m) ⟨n1, n2⟩, d3, d4, d5, d6, d7, d8, d9, (sI_c (fun z => n7 z.symm)).trans d10, (sI_c (fun z => n8 z.symm)).trans d11, (sI_c (fun z => n9 z.symm)).trans d12, (sI_c (fun z => n10 z.symm)).trans d13, (sI_c (fun z => n6 z.symm)).trans d14, d15, d16⟩
/-- the law says both -/
theorem SW7.say {L z np A : Nat} {nm : Int64} {σb ρb : Zs} {a : Int64} (h : SW7 x d L z σb ρb nm np A a t σ ρ) (m : qM x = 1) : SWN x d L z σb ρb nm np 7 A 2 t σ (sayR (sayR ρ 0 a 0 0) 1 422608071022 0 0) := by
  refine ⟨fun q => by omega, fun _ => ?_⟩
  obtain ⟨d1, d2, d3, d4, d5, d6, d7, d8, d9, d10, d11, d12, d13, d14, d15, d16, d17, d18⟩ := h.2 m
  have fr : ∀ c, c ≠ 911 ∧ c ≠ 1937 ∧ c ≠ 1938 → ∀ q s i, zI (sayR (sayR ρ 0 a 0 0) 1 422608071022 0 0) c q s i = zI ρ c q s i := fun c hn q s i => (sayR_I hn).trans (sayR_I hn)
  have hj : ∀ j, j < 2 → zJ σ 1224 0 0 j = zJ (sayR (sayR ρ 0 a 0 0) 1 422608071022 0 0) 1936 0 0 j := fun j hj => by
    obtain ⟨y1, _, _⟩ := sayR_j (ρ := sayR ρ 0 a 0 0) (w := 1) (j := j) (a := 422608071022) (s := 0) (u := 0)
    obtain ⟨y2, _, _⟩ := sayR_j (ρ := ρ) (w := 0) (j := j) (a := a) (s := 0) (u := 0)
    rw [y1, y2]
    have : j = 0 ∨ j = 1 := by omega
    rcases this with rfl | rfl
    · rw [if_neg (by decide), if_pos rfl]; exact d16
    · rw [if_pos rfl]; exact d17
  refine ⟨d1, d2.sayR.sayR, d3, d4, d5, d6, d7, d8, d9, (fr _ (by decide) _ _ _).trans d10, (fr _ (by decide) _ _ _).trans d11, (fr _ (by decide) _ _ _).trans d12, (fr _ (by decide) _ _ _).trans d13, d15, sayR_n, by decide, hj, fun i j hi hj he => ?_⟩
  have hi' : i = 0 ∨ i = 1 := by omega
  have hj' : j = 0 ∨ j = 1 := by omega
  rcases hi' with rfl | rfl <;> rcases hj' with rfl | rfl
  · rfl
  · rw [d16, d17] at he; exact absurd he d18
  · rw [d16, d17] at he; exact absurd he.symm d18
  · rfl
theorem s_wtail (hc : Cok x) {L z np A Y Sp La : Nat} {nm : Int64} {σb ρb : Zs} {a : Int64} {s1 s2 : Int32} (ht2 : 2 ≤ t) (h : IP x 0 t σ ρ) (hD : SW7 x d L z σb ρb nm np A a t σ ρ) (hX : WX x d Y Sp La σ ρ) (hY : qM x = 1 → Y < dW d A ∧ 1 ≤ Sp ∧ Sp ≤ 1000 ∧ La ≤ 1000) : SM (Er x 0) (bq (fX4_take 40 σ) fun _ z => fX4_window_44 FU 0 z) (fX14_window_118 s1 s2 a ρ) (fun _ σ' _ ρ' => ∃ t', t ≤ t' ∧ IP x 0 t' σ' ρ' ∧ FIN x d t' nm np σ' ρ') := by
  have ht := h.t5 hc
  have hFU : FU = 19999 + 1 := rfl
  unfold fX14_window_118
  obtain ⟨ρ1, w0, e1, hI1, hD1, hP1, hK1, hX1, hw0, hw2⟩ : ∃ ρ1 w0, (bq (fX14_say a 0 0 ρ) fun _ ρ48 => bq (fX14_say 422608071022 0 0 ρ48) fun _ ρ52 => bw (fX14_take_ 100 ρ52) fun w59 ρ56 => bw (fX14_totalOne ρ56) fun w64 ρ61 => fX14_window_145 s1 s2 FU ρ61) = (bw (fX14_take_ 100 ρ1) fun w59 ρ56 => bw (fX14_totalOne ρ56) fun w64 ρ61 => fX14_window_145 s1 s2 FU ρ61) ∧ IP x 0 t σ ρ1 ∧ SWN x d L z σb ρb nm np 7 A w0 t σ ρ1 ∧ MKP x d A 2 w0 σ ρ1 ∧ WKP x d 2 w0 σ ρ1 ∧ WX x d Y Sp La σ ρ1 ∧ w0 ≤ 2 ∧ (qM x = 1 → w0 = 2) := by
    rcases m01 hc with m | m
    · have e0 : ∀ b, fX14_say b 0 0 ρ = some ((), ρ) := fun b => say_0 (by rw [hc.m h.2.1, m])
      exact ⟨ρ, 0, by rw [bq_e (e0 _), bq_e (e0 _)], h, ⟨fun _ => hD.1 m, fun q => by omega⟩, fun q => by omega, fun q => by omega, fun q => by omega, by decide, fun q => by omega⟩
    · obtain ⟨d1, d2, d3, d4, d5, d6, d7, d8, d9, d10, d11, d12, d13, d14, d15, d16, d17, d18⟩ := hD.2 m
      obtain ⟨_, _, _, _, _, L', z', f1, f2, f3, f4, f5, f6⟩ := id d2
      have hm1 : LFr x (sayR ρ 0 a 0 0) := h.2.1.sayR
      have fr : ∀ c, c ≠ 911 ∧ c ≠ 1937 ∧ c ≠ 1938 → ∀ q s i, zI (sayR (sayR ρ 0 a 0 0) 1 422608071022 0 0) c q s i = zI ρ c q s i := fun c hn q s i => (sayR_I hn).trans (sayR_I hn)
      refine ⟨sayR (sayR ρ 0 a 0 0) 1 422608071022 0 0, 2, ?_, h.lw hm1.sayR rfl rfl rfl, hD.say m, fun _ => ⟨L', z', by omega, by omega, f5, (fr 785 (by decide) _ _ _).trans f6, fun c c1 c2 => by omega⟩, fun _ c c1 c2 => by omega, fun m => ?_, by decide, fun _ => rfl⟩
      · rw [bq_e (say_1 (by rw [hc.m h.2.1, m]) d14 (by decide)), bq_e (say_1 (by rw [hc.m hm1, m]) sayR_n (by decide))]
      · obtain ⟨x1, x4, x5, x6⟩ := hX m
        exact ⟨x1, (fr _ (by decide) _ _ _).trans x4, (fr _ (by decide) _ _ _).trans x5, (fr _ (by decide) _ _ _).trans x6⟩
  rw [e1]
  refine sm_b (s_take hc hI1 (K := 100) rfl (by decide) (show ck 100 = 40 from rfl)) (fun _ σ2 _ ρ2 q => ?_) (fun _ _ _ _ g => g.go fun h => kl_win 1500 0 FU _ (by omega) (by rw [hFU]; omega) h)
  obtain ⟨q1, q2, ⟨ka, kp, kw, q3⟩, q4⟩ := q
  have D2 : SWN x d L z σb ρb nm np 7 A w0 (t + 1) σ2 ρ2 := by rw [q3, q4]; exact hD1.av (Nat.le_succ t)
  have P2 : MKP x d A 2 w0 σ2 ρ2 := by rw [q3, q4]; exact hP1
  have K2 : WKP x d 2 w0 σ2 ρ2 := by rw [q3, q4]; exact hK1
  have X2 : WX x d Y Sp La σ2 ρ2 := by rw [q3, q4]; exact hX1
  have hcn : fX4_window_44 FU 0 σ2 = bq (cTot σ2) fun _ z => fX4_window_44 19999 (nI 1) z := by
    rw [hFU, fX4_window_44, i_1500, if_neg (show ¬ nI 1500 ≤ (0 : Int32) by decide), if_pos rfl, w59_e]
    unfold fX4_takeComma
    rw [if_pos (by decide), bq_s]
    rfl
  rw [hcn]
  refine sm_b (s_tot1 hc q2 D2 P2 K2 X2 (by omega)) (fun _ σ3 _ ρ3 g => ?_) (fun _ _ _ _ g => g.go fun h => kl_win 1499 1 19999 _ (by omega) (by omega) h)
  obtain ⟨t3, g0, g1, g2, g3, g4, g5⟩ := g
  have ht3 := g1.t5 hc
  refine sm_m (s_totl hc (1501 - t3) t3 (w0 + 1) 1 19999 FU σ3 ρ3 (by omega) (by omega) (by omega) (by omega) (by rw [hFU]; omega) (by omega) g1 g2 g3 g4 g5) (fun _ σ4 _ ρ4 q => ?_)
  obtain ⟨t', w, r1, r2, r3, r4, r5, r6, r7, r8⟩ := q
  refine ⟨t', by omega, r4, fun m => ⟨(r5.1 m).1, (r5.1 m).2.1⟩, fun m => ?_⟩
  obtain ⟨d1, d2, d3, d4, d5, d6, d7, d8, d9, d10, d11, d12, d13, d14⟩ := r5.2 m
  obtain ⟨_, _, _, _, _, L', z', f1, f2, f3, f4, f5, f6⟩ := id d2
  obtain ⟨c1, c2, c3, c4⟩ := (d2.old d1).col d1.1 d3
  obtain ⟨b1, b2, b3', b4', b5⟩ := id d1
  obtain ⟨⟨x1, x2, x3⟩, x4, x5, x6⟩ := r8 m
  obtain ⟨hY1, hY2, hY3, hY4⟩ := hY m
  have y1 : (zR σ4 195 0 0 0).1 = qS x := by rw [d2.2.2.1]
  have y2 : (zR σ4 195 0 0 0).2 = dN d := by rw [d2.2.2.1]
  refine ⟨end_eq d2.1 (by rw [y1, y2, d5]; decide) (by rw [y1, y2, d5]; decide), d8, w, d2.1, d14.1, d14.2.1, by omega, fun w6 => ?_⟩
  obtain ⟨Lc, zc, l1, l2, l3, l4, l5⟩ := r6 m
  have ht' := r4.t5 hc
  have eL : Lc = L' := (n_eq (by omega) (by omega)).mp (l3.symm.trans f5)
  have ez : zc = z' := (n_eq (by omega) (by omega)).mp (l4.symm.trans f6)
  subst eL ez
  have hpart : ∀ c, ∃ k, 2 ≤ c → c < w → 22 ≤ k ∧ k ≤ 26 ∧ zI σ4 1483 (qS x) (dN d) c = nI (128 + k) ∧ zI ρ4 1938 0 0 c = nI k := fun c => by
    by_cases qc : 2 ≤ c ∧ c < w
    · obtain ⟨k, hk⟩ := r7 m c qc.1 qc.2 (by omega)
      exact ⟨k, fun _ _ => hk⟩
    · exact ⟨0, fun k1 k2 => absurd ⟨k1, k2⟩ qc⟩
  obtain ⟨P, hP⟩ : ∃ P : Nat → Nat, ∀ c, 2 ≤ c → c < w → 22 ≤ P c ∧ P c ≤ 26 ∧ zI σ4 1483 (qS x) (dN d) c = nI (128 + P c) ∧ zI ρ4 1938 0 0 c = nI (P c) := ⟨fun c => Classical.choose (hpart c), fun c => Classical.choose_spec (hpart c)⟩
  have hcode : ∀ c, ∃ l : List Op, 2 ≤ c → c < w → P c ≠ 23 → ∃ a b, zI σ4 1481 (qS x) (dN d) c = nI a ∧ zI σ4 1482 (qS x) (dN d) c = nI (a + l.length) ∧ a + l.length ≤ Lc ∧ Cg (qS x) σ4 a l ∧ zI ρ4 1937 0 0 c = nI b ∧ b + l.length < zc ∧ Rg (qG x) ρ4 b l ∧ okO (dW d A) l := fun c => by
    by_cases qc : 2 ≤ c ∧ c < w ∧ P c ≠ 23
    · obtain ⟨p1, p2, p3, p4⟩ := hP c qc.1 qc.2.1
      obtain ⟨a, b, l, k⟩ := l5 c qc.1 qc.2.1 (by omega) (by rw [p4, show (23 : Int32) = nI 23 from rfl, ne_eq, n_eq (by omega) (by omega)]; exact qc.2.2)
      exact ⟨l, fun _ _ _ => ⟨a, b, k⟩⟩
    · exact ⟨[], fun k1 k2 k3 => absurd ⟨k1, k2, k3⟩ qc⟩
  obtain ⟨o, ho⟩ : ∃ o : Nat → List Op, ∀ c, 2 ≤ c → c < w → P c ≠ 23 → ∃ a b, zI σ4 1481 (qS x) (dN d) c = nI a ∧ zI σ4 1482 (qS x) (dN d) c = nI (a + (o c).length) ∧ a + (o c).length ≤ Lc ∧ Cg (qS x) σ4 a (o c) ∧ zI ρ4 1937 0 0 c = nI b ∧ b + (o c).length < zc ∧ Rg (qG x) ρ4 b (o c) ∧ okO (dW d A) (o c) := ⟨fun c => Classical.choose (hcode c), fun c => Classical.choose_spec (hcode c)⟩
  have hw3 := hw2 m
  refine ⟨b1, b3', L, z, Lc, zc, 7, A, 50, Sp, La, Y, 0, P, fun c => zJ σ4 1224 0 0 c, o, σb, ρb, b2, d2.2.2.1, d2.2.2.2.1, d2.2.2.2.2.1, f1, f3, f2, f4, f5, f6, fun c hcw => ⟨rfl, (d14.2.2.2.1 c hcw).symm⟩, d14.2.2.2.2, Or.inl d3, Or.inr (Nat.le_refl _), ?_, ?_, ?_, b4', b5⟩
  · refine ⟨d4, d5, ?_, ?_, fun _ => x1, fun q => by omega, fun _ => x2, fun _ => x3, fun q => by omega, fun _ c k1 k2 => (hP c k1 k2).2.2.1, fun c q => ?_⟩
    · rw [if_neg (by decide)]; exact d6
    · rw [if_neg (by decide)]; exact d7
    · have q' : 2 ≤ c ∧ c < w ∧ P c ≠ 23 := by
        rcases q with q | q | q
        · omega
        · omega
        · exact q.2
      obtain ⟨a, b, k1, k2, k3, k4, _⟩ := ho c q'.1 q'.2.1 q'.2.2
      exact ⟨a, k1, k2, k3, k4⟩
  · refine ⟨d10, ?_, ?_, fun _ => x4, fun q => by omega, fun _ => x5, fun _ => x6, fun q => by omega, fun _ c k1 k2 => (hP c k1 k2).2.2.2, fun q => by omega, fun c q => ?_⟩
    · rw [if_neg (by decide)]; exact d11
    · rw [if_neg (by decide)]; exact d12
    · have q' : 2 ≤ c ∧ c < w ∧ P c ≠ 23 := by
        rcases q with q | q
        · omega
        · exact q.2
      obtain ⟨a, b, k1, k2, k3, k4, k5, k6, k7, k8⟩ := ho c q'.1 q'.2.1 q'.2.2
      exact ⟨b, k5, k6, k7⟩
  · refine ⟨by decide, by omega, w6, hY3, hY4, fun _ => d3, fun q => by omega, fun q => by omega, fun q => by omega, fun q => by omega, fun q => by omega, fun q => by omega, fun q => by omega, fun _ => ⟨hY1, hY2, by omega, fun c k1 k2 => ⟨(hP c k1 k2).1, (hP c k1 k2).2.1, fun k3 => ?_⟩⟩⟩
    obtain ⟨a, b, _, _, _, _, _, _, _, k8⟩ := ho c k1 k2 k3
    exact k8
end WK
