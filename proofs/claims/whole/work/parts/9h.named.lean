/-! ITEMS, both: names that are looked for, numbers -/
section SN
variable {x : Cx} {b t : Nat} {σ ρ : Zs} {d : Pd}
theorem s_nam (hc : Cok x) (h : IP x b t σ ρ) (hb : b ≤ 1) {r : Int32} (hr : r = 2 ∨ b = 0) {LK : Int64 → Zs → Option (Int32 × Zs)} {N : Nat} (hN : N < 1000) {v : Int32} (hm : qM x = 1 → zI σ 192 0 0 0 = 0 ∧ LK (qw x t) ρ = some (v, ρ) ∧ (v = -nI 1 ∨ ∃ j, j < N ∧ v = nI j)) {Q : Nat → Zs → Prop}
    (hop : qM x = 1 → qk x t = 200 → ∀ j, j < N → v = nI j → ∃ σ1, fX3_lookAtName r (qw x t) (nI (qp x t)) σ = some ((), σ1) ∧ Q j σ1)
    (hno : qM x = 1 → qk x t = 200 → v = -nI 1 → ∃ σ1, fX3_lookAtName r (qw x t) (nI (qp x t)) σ = some ((), σ1) ∧ ∃ z, fX3_report 2 (nI (qp x t)) σ = some ((), z) ∧ Sk (qS x) z σ1) :
    SM (Er x b) (fX4_takeName r σ) (bq (fX14_is 200 ρ) fun v1 ρ2 => if v1 = 0 then (bq (fX14_wrong ρ2) fun w32 ρ33 => some (.error w32, ρ33)) else (if (zI ρ2 906 0 0 0) = 0 then ((fun (z0 : Int32) (ρ : Zs) => if z0 = (-1) then (if gi (zI ρ 905 0 0 0) 1501 then bw (fX14_must 0 2 (zI ρ 1927 0 0 (Int32.toNatClampNeg (zI ρ 905 0 0 0))) ρ) fun w10 ρ7 => bw (fX14_take  ρ7) fun w15 ρ12 => some ((.ok z0, ρ12) : Except (Int32 × Int32) Int32 × Zs) else none) else (if gi (zI ρ 905 0 0 0) 1501 then bw (fX14_must 1 2 (zI ρ 1927 0 0 (Int32.toNatClampNeg (zI ρ 905 0 0 0))) ρ) fun w21 ρ18 => bw (fX14_take  ρ18) fun w26 ρ23 => some (.ok z0, ρ23) else none)) 0 ρ2) else (if gi (zI ρ2 905 0 0 0) 1501 then bq (LK (zJ ρ2 1928 0 0 (Int32.toNatClampNeg (zI ρ2 905 0 0 0))) ρ2) fun v28 ρ29 => (fun (z0 : Int32) (ρ : Zs) => if z0 = (-1) then (if gi (zI ρ 905 0 0 0) 1501 then bw (fX14_must 0 2 (zI ρ 1927 0 0 (Int32.toNatClampNeg (zI ρ 905 0 0 0))) ρ) fun w10 ρ7 => bw (fX14_take  ρ7) fun w15 ρ12 => some ((.ok z0, ρ12) : Except (Int32 × Int32) Int32 × Zs) else none) else (if gi (zI ρ 905 0 0 0) 1501 then bw (fX14_must 1 2 (zI ρ 1927 0 0 (Int32.toNatClampNeg (zI ρ 905 0 0 0))) ρ) fun w21 ρ18 => bw (fX14_take  ρ18) fun w26 ρ23 => some (.ok z0, ρ23) else none)) v28 ρ29 else none)))
      (fun _ σ' a ρ' => qk x t = 200 ∧ ρ' = sI ρ 905 0 0 0 (nI (t + 1)) ∧ IP x b (t + 1) σ' ρ' ∧ (qM x = 0 → a = nI 0) ∧ (qM x = 1 → ∃ j σ1, j < N ∧ v = nI j ∧ a = nI j ∧ Q j σ1 ∧ ∃ k p w, σ' = avC σ1 t k p w)) := by
  rw [bq_e (show fX14_is 200 ρ = _ from h.is hc 200 (by decide))]
  by_cases q : qk x t = 200
  · rw [if_pos q, if10, hc.m h.2.1]
    obtain ⟨σL, eL, kL⟩ := s_look0 h hb hr
    rcases m01 hc with m | m
    · obtain ⟨σ', a1, a2, a3, a4⟩ := s_nm hc h q eL kL
      rw [m, if_pos (by rfl)]
      dsimp only
      rw [if_neg (by decide), if_pos (h.g5 hc), bw_e must_1, bw_e a2, a1]
      exact sm_ok ⟨q, rfl, a3, fun _ => rfl, fun q => by omega⟩
    · obtain ⟨g1, g2, g3⟩ := hm m
      rw [m, if_neg (by decide), if_pos (h.g5 hc), h.w9 hc, bq_e g2]
      rcases g3 with g3 | ⟨j, hj, g3⟩
      · obtain ⟨σ1, e1, z, e2, e3⟩ := hno m q g3
        obtain ⟨z', r1, r2⟩ := rep_E (E := (b, 0, 0, 0, 0, σ, σ)) m h.1 h.2.1 g1 (a := 2) (b := nI (qp x t)) (by decide) (by decide)
        rw [e2] at r1
        cases r1
        have hSt : St (qS x) b (qC x) σ1 := by rw [eL] at e1; cases e1; exact kL
        have hE : Er x b (2, nI (qp x t)) σ1 ρ := ⟨hSt, h.2.1, r2.2.2.go e3⟩
        have w1 := s_nmE hc h q e1 hE
        simp only [g3]
        rw [if_pos (show (-nI 1 : Int32) = -1 from rfl), if_pos (h.g5 hc), h.p9 hc]
        exact sm_xw (must_e m hc h.2.1) w1
      · obtain ⟨σ1, e1, q1⟩ := hop m q j hj g3
        have hSt : St (qS x) b (qC x) σ1 := by rw [eL] at e1; cases e1; exact kL
        obtain ⟨σ', a1, a2, a3, a4⟩ := s_nm hc h q e1 hSt
        simp only [g3]
        rw [if_neg (n_mx (a := j) (by omega)), if_pos (h.g5 hc), bw_e must_1, bw_e a2, a1]
        exact sm_ok ⟨q, rfl, a3, fun q => by omega, fun _ => ⟨j, σ1, hj, rfl, rfl, q1, a4⟩⟩
  · obtain ⟨z, a1, a2⟩ := s_nmN hc h q (r := r)
    rw [if_neg q, if00, bq_e (h.wr hc), a1]
    exact sm_x a2
/-- the streams so far, by name -/
def NMS (x : Cx) (d : Pd) (σ ρ : Zs) : Prop := zI σ 321 (qS x) 0 0 = nI (dN d) ∧ dN d ≤ 12 ∧ zI ρ 768 (qG x) 0 0 = nI (dN d) ∧ ∀ s, s < dN d → zJ σ 448 (qS x) s 0 = dNm d s ∧ zJ ρ 1793 (qG x) 0 s = dNm d s
theorem NMS.C (h : NMS x d σ ρ) (a : Int64) : fX5_streamNamed (qS x) a σ = some (nix (dNm d) a (dN d) 0, σ) := by
  rw [name_C (N := dN d) h.2.1 h.1, nix_c _ _ (fun s _ hs => (h.2.2.2 s (by omega)).1)]
theorem NMS.L (h : NMS x d σ ρ) (hg : zR ρ 909 0 0 0 = (qG x, 0)) (a : Int64) : fX14_streamOf a ρ = some (nix (dNm d) a (dN d) 0, ρ) := by
  have r2 : (zR ρ 909 0 0 0).2 = 0 := by rw [hg]
  have r1 : (zR ρ 909 0 0 0).1 = qG x := by rw [hg]
  have hN := h.2.1
  have hix := name_R (c := 1793) (p := qG x) (s := 0) (n0 := 12) (off := 0) (N := dN d) (w := a) (ρ := ρ) (by omega) (by decide) (by omega)
  rw [nix_c (g := dNm d) _ _ (fun s _ hs => by rw [Nat.zero_add]; exact (h.2.2.2 s (by omega)).2)] at hix
  unfold fX14_streamOf
  rw [if_pos r2, if_pos r2, r1, h.2.2.1, bq_e (show fX14_indexOf 1793 (qG x) 0 12 0 (nI (dN d)) a ρ = _ from hix)]
theorem Sk.rep {S : Nat} {z : Zs} : Sk S z z := Sk.rf
theorem s_strm (hc : Cok x) (h : IP x b t σ ρ) (hb : b ≤ 1) {r : Int32} (hr : r = 2 ∨ b = 0) (hm : qM x = 1 → zI σ 192 0 0 0 = 0 ∧ NMS x d σ ρ) {Q : Nat → Zs → Prop}
    (hop : qM x = 1 → ∀ A, A < dN d → fX5_streamNamed (qS x) (qw x t) σ = some (nI A, σ) → ∃ σ1, fX3_lookAtName r (qw x t) (nI (qp x t)) σ = some ((), σ1) ∧ Q A σ1)
    (hno : qM x = 1 → fX5_streamNamed (qS x) (qw x t) σ = some (-nI 1, σ) → fX3_lookAtName r (qw x t) (nI (qp x t)) σ = bq (fX3_report 2 (nI (qp x t)) σ) fun _ z => some ((), z)) :
    SM (Er x b) (fX4_takeName r σ) (fX14_streamNamed ρ) (fun _ σ' a ρ' => qk x t = 200 ∧ ρ' = sI ρ 905 0 0 0 (nI (t + 1)) ∧ IP x b (t + 1) σ' ρ' ∧ (qM x = 0 → a = nI 0) ∧ (qM x = 1 → ∃ A σ1, A < dN d ∧ a = nI A ∧ Q A σ1 ∧ ∃ k p w, σ' = avC σ1 t k p w)) := by
  rcases m01 hc with m | m
  · refine sm_m (s_nam hc h hb hr (LK := fX14_streamOf) (N := 12) (by decide) (v := 0) (Q := fun _ _ => True) (fun q => by omega) (fun q => by omega) (fun q => by omega)) ?_
    rintro _ σ' a ρ' ⟨a1, a2, a3, a4, _⟩
    exact ⟨a1, a2, a3, a4, fun q => by omega⟩
  · obtain ⟨g1, g2⟩ := hm m
    have hN := g2.2.1
    refine sm_m (s_nam hc h hb hr (LK := fX14_streamOf) (N := dN d) (by omega) (v := nix (dNm d) (qw x t) (dN d) 0) (Q := Q) (fun _ => ⟨g1, g2.L (hc.g h.2.1) _, nix_r⟩) (fun _ _ j hj e => hop m j hj (by rw [g2.C, e])) (fun _ _ e => ?_)) ?_
    · obtain ⟨z, r1, _⟩ := rep_E (E := (b, 0, 0, 0, 0, σ, σ)) m h.1 h.2.1 g1 (a := 2) (b := nI (qp x t)) (by decide) (by decide)
      refine ⟨z, ?_, z, r1, Sk.rf⟩
      rw [hno m (by rw [g2.C, e]), bq_e r1]
    · rintro _ σ' a ρ' ⟨a1, a2, a3, a4, a5⟩
      refine ⟨a1, a2, a3, a4, fun _ => ?_⟩
      obtain ⟨j, σ1, b1, b2, b3, b4, b5⟩ := a5 m
      exact ⟨j, σ1, b1, b3, b4, b5⟩
/-- the columns of a stream, by name -/
def COL (x : Cx) (A W : Nat) (σ ρ : Zs) : Prop := A < 12 ∧ W ≤ 6 ∧ zI σ 450 (qS x) A 0 = nI W ∧ zI ρ 1795 (qG x) 0 A = nI W ∧ ∀ c, c < W → zJ σ 1475 (qS x) A c = zJ ρ 1796 (qG x) 0 (6 * A + c)
theorem COL.C {A W : Nat} (h : COL x A W σ ρ) (a : Int64) : fX7_columnNamed (qS x) A a σ = some (nix (fun c => zJ σ 1475 (qS x) A c) a W 0, σ) := col_C h.2.1 h.2.2.1
theorem COL.L {A W : Nat} (h : COL x A W σ ρ) (hg : zR ρ 909 0 0 0 = (qG x, 0)) (a : Int64) : fX14_columnOf (nI A) a ρ = some (nix (fun c => zJ σ 1475 (qS x) A c) a W 0, ρ) := by
  obtain ⟨h1, h2, h3, h4, h5⟩ := h
  have r2 : (zR ρ 909 0 0 0).2 = 0 := by rw [hg]
  have r1 : (zR ρ 909 0 0 0).1 = qG x := by rw [hg]
  have f1795 : zI ρ 1795 (qG x) 0 (Int32.toNatClampNeg (nI A)) = nI W := by rw [n_cl (by omega)]; exact h4
  have hix := name_R (c := 1796) (p := qG x) (s := 0) (n0 := 72) (off := 6 * A) (N := W) (w := a) (ρ := ρ) (by omega) (by decide) (by omega)
  rw [nix_c (g := fun c => zJ σ 1475 (qS x) A c) _ _ (fun c _ hcc => (h5 c (by omega)).symm)] at hix
  unfold fX14_columnOf
  rw [if_pos r2, if_pos r2, if_pos ((n_gi (by omega)).mpr h1), r1, f1795, i_6, n_mul, bq_e hix]
-- numbers
noncomputable def cNum (w : Int32) (σ : Zs) : Option (Unit × Zs) := if (zI σ 260 0 0 0) = 3 then (bq (fX3_lookAtRange w (zJ σ 262 0 0 0) (zI σ 261 0 0 0) σ) fun v9 σ10 => bq (fX4_take 3 σ10) fun v13 σ14 => some ((), σ14)) else (bq (fX4_take 3 σ) fun v5 σ6 => some ((), σ6))
theorem range_num {w : Int32} : fX4_takeRange w σ = bq (fX4_take w σ) fun _ z => cNum w z := rfl
theorem k_cnum {S : Nat} {σ0 z : Zs} (h : St S 0 σ0 z) {w : Int32} : Wp1 (cNum w z) fun _ => St S 0 σ0 := by
  unfold cNum
  exact wp_ite (kb (k_lookAtRange h) fun _ _ h => kb (k_take h) fun _ _ h => h) (kb (k_take h) fun _ _ h => h)
def rgC (w : Int32) : Nat := if w = 144 then 456 else 455
theorem s_num (hc : Cok x) (h : IP x 0 t σ ρ) {wd : Int32} {lo n : Nat} (hlo : lo = if wd = 143 then 1 else 0) (hm : qM x = 1 → zI σ 192 0 0 0 = 0 ∧ zR σ 195 0 0 0 = (qS x, n)) : SM (Er x 0) (cNum wd σ) (fX14_numberIn (nI lo) ρ) (fun _ σ' a ρ' => qk x t = 201 ∧ ρ' = sI ρ 905 0 0 0 (nI (t + 1)) ∧ IP x 0 (t + 1) σ' ρ' ∧ (qM x = 1 → ∃ v, lo ≤ v ∧ v ≤ 1000 ∧ a = nI v ∧ ∃ k p w, σ' = avC (sI σ (rgC wd) (qS x) n 0 (nI v)) t k p w)) := by
  have hlo1 : lo ≤ 1 := by rw [hlo]; split <;> omega
  unfold cNum fX14_numberIn
  rw [bq_e (show fX14_is 201 ρ = _ from h.is hc 201 (by decide)), h.c0, h.c1]
  by_cases q : qk x t = 201
  · obtain ⟨u, u1, u2⟩ := (h.tk hc).2.2.2.2.2.2.2.2.2 q
    rw [if_pos (show ck (qk x t) = 3 by rw [q]; rfl), if_pos q, if10, if_pos (h.g5 hc), h.w9 hc, h.c2 (by omega)]
    have hmin : (p_lmin (qw x t) 1000).toInt32 = nI (min u 1000) := by
      rw [u2, show (1000 : Int64) = lN 1000 from rfl]
      unfold p_lmin
      by_cases q2 : 1000 < u
      · rw [if_pos ((lN_lt (by omega) (by omega)).mpr q2), lN_i, Nat.min_eq_right (by omega)]
      · rw [if_neg (fun z => q2 ((lN_lt (by omega) (by omega)).mp z)), lN_i, Nat.min_eq_left (by omega)]
    have hin : fX14_isIn (qw x t) (nI lo).toInt64 1000 ρ = some (if lo ≤ u ∧ u ≤ 1000 then 1 else 0, ρ) := by
      have := in_R (a := u) (lo := lo) (hi := 1000) (ρ := ρ) (by omega) (by omega) (by omega)
      rw [n_i64 (by omega)] at this
      rw [u2, n_i64 (by omega)]
      exact this
    rw [bq_e hin, if_pos (h.g5 hc), h.p9 hc]
    have done : ∀ σ1, fX3_lookAtRange wd (qw x t) (nI (qp x t)) σ = some ((), σ1) → St (qS x) 0 (qC x) σ1 → ∃ σ', bq (fX3_lookAtRange wd (qw x t) (nI (qp x t)) σ) (fun v9 σ10 => bq (fX4_take 3 σ10) fun v13 σ14 => some ((), σ14)) = some ((), σ') ∧ fX14_take ρ = some (.ok (), sI ρ 905 0 0 0 (nI (t + 1))) ∧ IP x 0 (t + 1) σ' (sI ρ 905 0 0 0 (nI (t + 1))) ∧ ∃ k p w, σ' = avC σ1 t k p w := fun σ1 e1 e2 => by
      have h' := h.mf e2 (mf_X3_lookAtRange MF.rf _ _ e1)
      obtain ⟨σ', a1, a2, a3, a4, _⟩ := s_tk hc h' (by omega)
      refine ⟨σ', ?_, a2, a3, a4⟩
      rw [bq_e e1, bq_e (a1 3 (by rw [q]; rfl))]
    obtain ⟨⟨⟩, σL, eL, kL⟩ := wp_ex (k_lookAtRange h.1 (x := wd) (w := qw x t) (y := nI (qp x t)))
    rcases m01 hc with m | m
    · obtain ⟨σ', a1, a2, a3, a4⟩ := done σL eL kL
      rw [a1, bw_e (must_0 m hc h.2.1), bw_e a2]
      exact sm_ok ⟨q, rfl, a3, fun q => by omega⟩
    · obtain ⟨g1, g2⟩ := hm m
      have e1 : (zR σ 195 0 0 0).1 = qS x := by rw [g2]
      have e2 : (zR σ 195 0 0 0).2 = n := by rw [g2]
      have hz0 : (if wd = 143 then fX3_lookAtRange_20 wd (qw x t) (nI (qp x t)) 1 σ else fX3_lookAtRange_20 wd (qw x t) (nI (qp x t)) 0 σ) = fX3_lookAtRange_20 wd (qw x t) (nI (qp x t)) (lN lo) σ := by
        rw [hlo]
        by_cases q2 : wd = 143
        · rw [if_pos q2, if_pos q2]; rfl
        · rw [if_neg q2, if_neg q2]; rfl
      have hlk : fX3_lookAtRange wd (qw x t) (nI (qp x t)) σ = if lo ≤ u ∧ u ≤ 1000 then some ((), sI σ (rgC wd) (qS x) n 0 (nI u)) else bq (fX3_report 6 (nI (qp x t)) σ) fun _ z => some ((), z) := by
        unfold fX3_lookAtRange
        rw [if_pos g1, hz0]
        unfold fX3_lookAtRange_20
        have c1 : lg_cmp (qw x t) (lN lo) < 0 ↔ u < lo := by rw [u2, l_cmplt, lN_lt (by omega) (by omega)]
        have c2 : lg_cmp (qw x t) 1000 ≤ 0 ↔ u ≤ 1000 := by rw [u2, l_cmple, show (1000 : Int64) = lN 1000 from rfl, lN_le (by omega) (by omega)]
        rw [e1, e2]
        by_cases p1 : u < lo
        · rw [if_pos (c1.mpr p1), if_neg (show ¬ (lo ≤ u ∧ u ≤ 1000) by omega)]
        · rw [if_neg (fun z => p1 (c1.mp z))]
          by_cases p2 : u ≤ 1000
          · rw [if_pos (c2.mpr p2), if_pos (show lo ≤ u ∧ u ≤ 1000 by omega), u2, lN_i]
            unfold rgC
            by_cases p3 : wd = 144
            · rw [if_pos p3, if_pos p3, lt_k]
            · rw [if_neg p3, if_neg p3, lt_k]
          · rw [if_neg (fun z => p2 (c2.mp z)), if_neg (show ¬ (lo ≤ u ∧ u ≤ 1000) by omega)]
      by_cases p : lo ≤ u ∧ u ≤ 1000
      · rw [if_pos p] at hlk
        have hSt : St (qS x) 0 (qC x) (sI σ (rgC wd) (qS x) n 0 (nI u)) := by rw [eL] at hlk; cases hlk; exact kL
        obtain ⟨σ', a1, a2, a3, a4⟩ := done _ hlk hSt
        rw [if_pos p, a1, bw_e must_1, bw_e a2]
        refine sm_ok ⟨q, rfl, a3, fun _ => ⟨u, p.1, p.2, ?_, a4⟩⟩
        rw [hmin, Nat.min_eq_left p.2]
      · obtain ⟨z, r1, r2⟩ := rep_E (E := (0, 0, 0, 0, 0, σ, σ)) m h.1 h.2.1 g1 (a := 6) (b := nI (qp x t)) (by decide) (by decide)
        rw [if_neg p] at hlk ⊢
        rw [hlk, bq_e r1, bq_s]
        exact sm_xw (must_e m hc h.2.1) (r2.go fun h => kb (k_take h) fun _ _ h => h)
  · have hne : ¬ ck (qk x t) = 3 := ck_ne (j := 201) (h.vk hc).1 rfl q
    obtain ⟨z, a1, a2⟩ := s_no hc h hne
    rw [if_neg hne, if_neg q, if00, bq_e a1, bq_e (h.wr hc)]
    exact sm_x a2
end SN
