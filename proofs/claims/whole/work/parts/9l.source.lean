/-! ITEMS, both: a source -/
noncomputable def lTail (x1 : Int32) (ρ20 : Zs) : Option (Except (Int32 × Int32) (Unit) × Zs) := if (zR ρ20 909 0 0 0).2 = 0 then if gi x1 12 then lt (sI ρ20 1794 ((zR ρ20 909 0 0 0).1) 0 (Int32.toNatClampNeg x1) 0) fun ρ27 => if (zR ρ27 909 0 0 0).2 = 0 then if gi x1 12 then lt (sI ρ27 1799 ((zR ρ27 909 0 0 0).1) 0 (Int32.toNatClampNeg x1) 0) fun ρ32 => bq (fX14_is 1 ρ32) fun v34 ρ35 => if v34 = 0 then (some (.ok (), ρ35)) else (bw (fX14_take  ρ35) fun w42 ρ39 => if (zR ρ39 909 0 0 0).2 = 0 then bw (fX14_numberIn 0 ρ39) fun w49 ρ46 => if gi x1 12 then lt (sI ρ46 1799 ((zR ρ39 909 0 0 0).1) 0 (Int32.toNatClampNeg x1) w49) fun ρ51 => some (.ok (), ρ51) else none else none) else none else none else none else none
noncomputable def cTail (z : Zs) : Option (Unit × Zs) := if (zI z 260 0 0 0) = 129 then fX4_takeRange 129 z else some ((), z)
def sayR (ρ : Zs) (w : Nat) (a : Int64) (s u : Int32) : Zs := sI (sI (sI (sJ ρ 1936 0 0 w a) 1937 0 0 w s) 1938 0 0 w u) 911 0 0 0 (nI (w + 1))
section SS
variable {x : Cx} {t : Nat} {σ ρ : Zs} {d : Pd}
theorem say_1 {w : Nat} {a : Int64} {s u : Int32} (hm : zI ρ 906 0 0 0 = nI 1) (h : zI ρ 911 0 0 0 = nI w) (hw : w < 1500) : fX14_say a s u ρ = some ((), sayR ρ w a s u) := by
  unfold fX14_say
  have g : gi (nI w) 1500 := (n_gi (by omega)).mpr hw
  have f1 : ∀ v, zI (sJ ρ 1936 0 0 w v) 911 0 0 0 = nI w := fun _ => h
  have f2 : ∀ v v2, zI (sI (sJ ρ 1936 0 0 w v) 1937 0 0 w v2) 911 0 0 0 = nI w := fun _ _ => h
  have f3 : ∀ v v2 v3, zI (sI (sI (sJ ρ 1936 0 0 w v) 1937 0 0 w v2) 1938 0 0 w v3) 911 0 0 0 = nI w := fun _ _ _ => h
  rw [hm, if_neg (by decide), h, if_pos g, lt_k, n_cl (by omega), f1, if_pos g, lt_k, n_cl (by omega), f2, if_pos g, lt_k, n_cl (by omega), f3, lt_k, i_1, n_add]
  rfl
theorem say_0 {a : Int64} {s u : Int32} (hm : zI ρ 906 0 0 0 = nI 0) : fX14_say a s u ρ = some ((), ρ) := by
  unfold fX14_say
  rw [hm, if_pos (by rfl)]
theorem sayR_j {w j : Nat} {a : Int64} {s u : Int32} : zJ (sayR ρ w a s u) 1936 0 0 j = (if j = w then a else zJ ρ 1936 0 0 j) ∧ zI (sayR ρ w a s u) 1937 0 0 j = (if j = w then s else zI ρ 1937 0 0 j) ∧ zI (sayR ρ w a s u) 1938 0 0 j = if j = w then u else zI ρ 1938 0 0 j := by
  unfold sayR
  refine ⟨?_, ?_, ?_⟩
  · show zJ (sJ ρ 1936 0 0 w a) 1936 0 0 j = _
    rw [zJ_sJ]
    by_cases q : j = w
    · rw [if_pos ⟨rfl, rfl, rfl, q⟩, if_pos q]
    · rw [if_neg (fun z => q z.2.2.2), if_neg q]
  · show zI (sI (sJ ρ 1936 0 0 w a) 1937 0 0 w s) 1937 0 0 j = _
    rw [zI_sI]
    by_cases q : j = w
    · rw [if_pos ⟨rfl, rfl, rfl, q⟩, if_pos q]
    · rw [if_neg (fun z => q z.2.2.2), if_neg q]; rfl
  · show zI (sI (sI (sJ ρ 1936 0 0 w a) 1937 0 0 w s) 1938 0 0 w u) 1938 0 0 j = _
    rw [zI_sI]
    by_cases q : j = w
    · rw [if_pos ⟨rfl, rfl, rfl, q⟩, if_pos q]
    · rw [if_neg (fun z => q z.2.2.2), if_neg q]; rfl
theorem adN_j {w j : Nat} {a : Int64} : zJ (adN σ w a) 1224 0 0 j = if j = w then a else zJ σ 1224 0 0 j := by
  unfold adN
  show zJ (sJ σ 1224 0 0 w a) 1224 0 0 j = _
  rw [zJ_sJ]
  by_cases q : j = w
  · rw [if_pos ⟨rfl, rfl, rfl, q⟩, if_pos q]
  · rw [if_neg (fun z => q z.2.2.2), if_neg q]
theorem NLw.add {w : Nat} {a : Int64} {s u : Int32} (h : NLw w σ ρ) (hw : w + 1 < 1500) (hn : ∀ j, j < w → zJ σ 1224 0 0 j ≠ a) : NLw (w + 1) (adN σ w a) (sayR ρ w a s u) := by
  obtain ⟨h1, h2, h3, h4, h5⟩ := h
  refine ⟨rfl, rfl, hw, fun j hj => ?_, fun i j hi hj e => ?_⟩
  · rw [adN_j, sayR_j.1]
    by_cases q : j = w
    · rw [if_pos q, if_pos q]
    · rw [if_neg q, if_neg q]; exact h4 j (by omega)
  · rw [adN_j, adN_j] at e
    by_cases q : i = w
    · by_cases q2 : j = w
      · omega
      · rw [if_pos q, if_neg q2] at e; exact absurd e.symm (hn j (by omega))
    · by_cases q2 : j = w
      · rw [if_neg q, if_pos q2] at e; exact absurd e (hn i (by omega))
      · rw [if_neg q, if_neg q2] at e; exact h5 i j (by omega) (by omega) e
theorem SIx.adN {L z w : Nat} {a : Int64} {σb ρb : Zs} (h : SIx x d L z σb ρb t σ ρ) : SIx x d L z σb ρb t (adN σ w a) ρ := (h.cJ (wI_0 rfl) (by decide)).cI (wI_0 rfl) (by decide)
theorem SIx.sayR {L z w : Nat} {a : Int64} {s u : Int32} {σb ρb : Zs} (h : SIx x d L z σb ρb t σ ρ) : SIx x d L z σb ρb t σ (sayR ρ w a s u) := (((h.lJ (wJ_0 rfl) (by decide)).lI (wJ_0 rfl) (by decide)).lI (wJ_0 rfl) (by decide)).lI (wJ_0 rfl) (by decide)
theorem LFr.sayR {w : Nat} {a : Int64} {s u : Int32} (h : LFr x ρ) : LFr x (sayR ρ w a s u) := (((h.J (wl0 rfl)).I (wl0 rfl)).I (wl0 rfl)).I (wl0 rfl)
theorem end_eq (h1 : zI σ 192 0 0 0 = 0) (n4 : ¬ zI σ 449 ((zR σ 195 0 0 0).1) ((zR σ 195 0 0 0).2) 0 = 4) (n5 : ¬ zI σ 449 ((zR σ 195 0 0 0).1) ((zR σ 195 0 0 0).2) 0 = 5) : fX3_endStream σ = fX3_endStream_63 σ := by
  unfold fX3_endStream
  rw [if_pos h1, if_neg n4, if_pos h1, if_neg n5]
theorem s_fin' (hc : Cok x) {w : Nat} {nm : Int64} {np : Nat} (h : IP x 0 t σ ρ) (h0 : qM x = 0 → M0 x ρ ∧ zI ρ 911 0 0 0 = nI 0) (hm : qM x = 1 → fX3_endStream σ = fX3_endStream_63 σ ∧ zI σ 202 0 0 0 = nI np ∧ NEWp x d t w nm σ ρ) : SM (Er0 x) (bq (fX3_endStream σ) fun _ z => some ((), z)) (if (6 : Int32) < zI ρ 911 0 0 0 then fX14_item_221 nm (nI np) (nI (sIdx x d)) 0 ρ else fX14_item_221 nm (nI np) (nI (sIdx x d)) 1 ρ) (fun _ σ' _ ρ' => ∃ d', ITm x d' t σ' ρ') := by
  rcases m01 hc with m | m
  · obtain ⟨⟨⟩, σ', e1, k1, k2⟩ := wp_ex (wp_an (k_endStream h.1) (mf_X3_endStream MF.rf))
    rw [bq_e e1, (h0 m).2, if_neg (by decide)]
    unfold fX14_item_221
    rw [bw_e must_1, hc.m h.2.1, m, if_pos (by rfl)]
    exact sm_ok ⟨d, k1, h.2.1, h.2.2.1.mf k2, h.2.2.2.1, h.2.2.2.2, fun _ => (h0 m).1, fun q => by omega⟩
  · obtain ⟨g1, g2⟩ := hm m
    rw [g1]
    exact s_fin hc h h0 (fun _ => g2)
theorem kl_names {S : Nat} {r : Int32} : ∀ (k y n : Nat), y + k = 1500 → k < n → ∀ σ0 z, St S 0 σ0 z → Wp1 (fX4_takeNames_8 r n (nI y) z) fun _ => St S 0 σ0 := by
  intro k
  induction k with
  | zero =>
    intro y n h1 h2 σ0 z h
    obtain ⟨n, rfl⟩ : ∃ j, n = j + 1 := ⟨n - 1, by omega⟩
    rw [fX4_takeNames_8, i_1500, if_pos ((n_le (by omega) (by omega)).mpr (by omega))]
    exact kb (k_take h) fun _ _ h => h
  | succ k ih =>
    intro y n h1 h2 σ0 z h
    obtain ⟨n, rfl⟩ : ∃ j, n = j + 1 := ⟨n - 1, by omega⟩
    rw [fX4_takeNames_8, i_1500, if_neg (fun z => by have := (n_le (by omega) (by omega)).mp z; omega)]
    have g : Wp1 (bq (fX4_takeComma (nI y) z) fun v9 σ10 => bq (fX4_takeName r σ10) fun v13 σ14 => fX4_takeNames_8 r n (nI y + 1) σ14) fun _ => St S 0 σ0 := kb (k_takeComma h) fun _ _ h => kb (k_takeName h (by omega) (Or.inr rfl)) fun _ z h => by
      rw [i_1, n_add]; exact ih (y + 1) n (by omega) (by omega) _ _ h
    exact wp_ite g (wp_ite g (kb (k_take h) fun _ _ h => h))
/-- a source's columns -/
def SRC (x : Cx) (d : Pd) (L z : Nat) (σb ρb : Zs) (nm : Int64) (np w t : Nat) (σ ρ : Zs) : Prop := (qM x = 0 → M0 x ρ ∧ zI ρ 911 0 0 0 = nI 0) ∧ (qM x = 1 → SIx x d L z σb ρb t σ ρ ∧ NLw w σ ρ ∧ w + 3 ≤ t ∧ zJ σ 448 (qS x) (dN d) 0 = nm ∧ zI σ 449 (qS x) (dN d) 0 = 0 ∧ zI σ 1476 (qS x) (dN d) 0 = -1 ∧ zI σ 1476 (qS x) (dN d) 1 = -1 ∧ zI σ 455 (qS x) (dN d) 0 = 0 ∧ zI σ 202 0 0 0 = nI np ∧ zI ρ 1797 (qG x) 0 (dN d) = -1 ∧ zI ρ 1798 (qG x) 0 (dN d) = -1)
theorem SRC.av {L z np w : Nat} {nm : Int64} {σb ρb : Zs} {k p : Int32} {u : Int64} (h : SRC x d L z σb ρb nm np w t σ ρ) : SRC x d L z σb ρb nm np w (t + 1) (avC σ t k p u) (sI ρ 905 0 0 0 (nI (t + 1))) := by
  refine ⟨h.1, fun m => ?_⟩
  obtain ⟨h1, h2, h3, h4⟩ := h.2 m
  exact ⟨h1.av (Nat.le_succ t), h2, by omega, h4⟩
/-- one more column: the class's name, then the law's say -/
theorem s_srcc (hc : Cok x) {L z np w : Nat} {nm : Int64} {σb ρb : Zs} (h : IP x 0 t σ ρ) (hD : SRC x d L z σb ρb nm np w t σ ρ) {E : Int32 × Int32 → Zs → Zs → Prop} {A : Zs → Option (Unit × Zs)} {B : Zs → Option (Except (Int32 × Int32) Unit × Zs)} {Q : Unit → Zs → Unit → Zs → Prop} (hA : ∀ e σ ρ, Er x 0 e σ ρ → Wp1 (A σ) fun _ σ' => E e σ' ρ) (g : ∀ σ ρ, qk x t = 200 → IP x 0 (t + 1) σ ρ → SRC x d L z σb ρb nm np (w + 1) (t + 1) σ ρ → SM E (A σ) (B ρ) Q) :
    SM E (bq (fX4_takeName 1 σ) fun _ z => A z) (bw (fX14_newColumn ρ) fun a ρ => bq (fX14_say a 0 0 ρ) fun _ ρ => B ρ) Q := by
  have ht := h.t5 hc
  refine sm_b (s_newcol hc h (w := w) (fun m => (hD.1 m).2) (fun m => ⟨(hD.2 m).1.1, (hD.2 m).2.1⟩)) (fun _ σ' a ρ' q => ?_) (fun _ σ e ρ q => hA e σ ρ q)
  obtain ⟨q1, rfl, rfl, q4, q5⟩ := q
  rcases m01 hc with m | m
  · rw [bq_e (say_0 (by rw [hc.m q4.2.1, m]))]
    exact g _ _ q1 q4 ⟨fun m => hD.1 m, fun q => by omega⟩
  · obtain ⟨q6, k, p, v, rfl⟩ := q5 m
    obtain ⟨g1, g2, g3, g4⟩ := hD.2 m
    have e911 : zI (sI ρ 905 0 0 0 (nI (t + 1))) 911 0 0 0 = nI w := g2.2.1
    rw [bq_e (say_1 (by rw [hc.m q4.2.1, m]) e911 g2.2.2.1)]
    refine g _ _ q1 (q4.lw q4.2.1.sayR rfl rfl rfl) ⟨fun q => by omega, fun _ => ⟨((g1.adN).av (Nat.le_succ t)).sayR, ?_, by omega, g4⟩⟩
    have := g2.add (a := qw x t) (s := 0) (u := 0) (by omega) q6
    exact this
/-- the row of columns behind the first one -/
theorem s_srcl (hc : Cok x) {L z np s t0 : Nat} {nm : Int64} {σb ρb : Zs} {C : Zs → Option (Unit × Zs)} {Q : Unit → Zs → Unit → Zs → Prop} (hC : ∀ σ0 z, St (qS x) 0 σ0 z → Wp1 (C z) fun _ => St (qS x) 0 σ0)
    (g : ∀ t w σ ρ, t0 ≤ t → 1 ≤ w → IP x 0 t σ ρ → SRC x d L z σb ρb nm np w t σ ρ → SM (Er x 0) (C σ) (lTail (nI s) ρ) Q) :
    ∀ (r t w y n m : Nat) (σ ρ : Zs), r + t = 1501 → t0 ≤ t → 1 ≤ w → 1 ≤ y → y + 2 ≤ t → 1500 < n + y → r < m → IP x 0 t σ ρ → SRC x d L z σb ρb nm np w t σ ρ → SM (Er x 0) (bq (fX4_takeNames_8 1 n (nI y) σ) fun _ z => C z) (fX14_source_16 (nI s) m ρ) Q := by
  intro r
  induction r using Nat.strongRecOn with
  | ind r ih =>
    intro t w y n m σ ρ h1 h0 h2 h3 h4 h5 h6 h hD
    have ht := h.t5 hc
    obtain ⟨n, rfl⟩ : ∃ j, n = j + 1 := ⟨n - 1, by omega⟩
    obtain ⟨m, rfl⟩ : ∃ j, m = j + 1 := ⟨m - 1, by omega⟩
    have kl : ∀ y n, y ≤ 1500 → 1500 - y < n → ∀ σ0 z, St (qS x) 0 σ0 z → Wp1 (bq (fX4_takeNames_8 1 n (nI y) z) fun _ z => C z) fun _ => St (qS x) 0 σ0 := fun y n hy hn σ0 z h => by
      exact kb (kl_names (1500 - y) y n (by omega) hn _ _ h) fun _ _ h => hC _ _ h
    have hv := h.vk hc
    rw [fX4_takeNames_8, i_1500, if_neg (fun z => by have := (n_le (by omega) (by omega)).mp z; omega), if_neg (show ¬ (nI y : Int32) = 0 by rw [i_0, n_eq (by omega) (by omega)]; omega), h.c0, fX14_source_16, bq_e (show fX14_is 102 ρ = _ from h.is hc 102 (by decide))]
    by_cases q : qk x t = 102
    · obtain ⟨σ2, a1, a2, a3, ⟨ka, kp', kw, a4⟩, _⟩ := s_tk hc h (by omega)
      have hcm : fX4_takeComma (nI y) σ = some ((), σ2) := by
        unfold fX4_takeComma
        rw [if_neg (show ¬ (nI y : Int32) ≤ 0 by rw [i_0, n_le (by omega) (by omega)]; omega), bq_e (a1 44 (by rw [q]; rfl))]
      rw [if_pos (show ck (qk x t) = 44 by rw [q]; rfl), if_pos q, if10, bw_e a2, bq_e hcm, bq_as]
      have hD2 : SRC x d L z σb ρb nm np w (t + 1) σ2 (sI ρ 905 0 0 0 (nI (t + 1))) := by rw [a4]; exact hD.av
      refine s_srcc hc a3 hD2 (fun e σ ρ he => he.go fun h => ?_) (fun σ ρ q1 q2 q3 => ?_)
      · rw [i_1, n_add]; exact kl (y + 1) n (by omega) (by omega) _ _ h
      · rw [i_1, n_add]
        exact ih (1501 - (t + 1 + 1)) (by omega) (t + 1 + 1) (w + 1) (y + 1) n m σ ρ (by have := q2.t5 hc; omega) (by omega) (by omega) (by omega) (by omega) (by omega) (by omega) q2 q3
    · rw [if_neg (show ¬ ck (qk x t) = 44 from ck_ne (j := 102) hv.1 rfl q), if_neg q, if00, bq_as]
      refine sm_b (s_take hc h (K := 101) rfl (by decide) (show ck 101 = 41 from rfl)) (fun _ σ2 _ ρ2 q2 => ?_) (fun _ _ _ _ g => g.go fun h => hC _ _ h)
      obtain ⟨q3, q4, ⟨ka, kp', kw, rfl⟩, rfl⟩ := q2
      exact g (t + 1) w _ _ (by omega) h2 q4 hD.av
end SS
