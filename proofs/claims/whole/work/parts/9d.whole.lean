/-! EXPRESSIONS, both: one factor, all of them, a whole expression -/
section XW
variable {x : Cx} {E : Ex} {t e dp : Nat} {l : List Op} {σ ρ : Zs}
theorem x_one (hc : Cok x) (h : XP x E t e dp l σ ρ) (hk : qk x t < 202) (y8 : (nI dp : Int32) ≤ 8) {o : Op} {l0 : List Op} (hl : qM x = 1 → l = l0 ++ [o]) (ho : qM x = 1 → ∀ h, hg (eW E) h [o] (h + 1)) : SM (Er x (eB E)) (bq (fX4_takeInExpression (ck (qk x t)) (nI dp) σ) fun _ z => some ((), z)) (bw (fX14_take ρ) fun _ z => some (.ok (), z)) (XQ x E t e dp l0) := by
  refine sm_b (x_take hc h hk rfl y8) (fun _ σ _ ρ g => sm_ok ⟨t + 1, e + 1, [o], ?_, by omega, by omega, fun m => ⟨by rw [List.length_singleton]; omega, ho m⟩⟩) (fun _ _ _ _ g => g.go fun h => h)
  obtain ⟨_, h1, h2, h3, h4, h5, h6, h7, h8⟩ := g
  exact ⟨h1, h2, h3, h4, h5, h6, h7, h8.1, fun m => by rw [← hl m]; exact h8.2 m⟩
theorem x_factor (hc : Cok x) (hS : qM x = 1 → Scp x (eA E) (eW E) (eC E) (eR E)) (hd : dp ≤ 8) {kE kF : Int32 → Zs → Option (Unit × Zs)} {lE lF : Zs → Option (Except (Int32 × Int32) Unit × Zs)} (hE : dp + 1 ≤ 8 → FS x E (dp + 1) (kE (nI dp + 1)) lE) (hKE : dp + 1 ≤ 8 → FK x E (kE (nI dp + 1))) (hF : dp + 1 ≤ 8 → FS x E (dp + 1) (kF (nI dp + 1)) lF) (hKF : dp + 1 ≤ 8 → FK x E (kF (nI dp + 1))) : FS x E dp (fX4_factor (nI dp) kE kF) (fX14_factor lE lF) := by
  intro t e l σ ρ h hb
  have y8 : (nI dp : Int32) ≤ 8 := by rw [i_8, n_le (by omega) (by omega)]; omega
  have hv := PSt.k204 hc h.2.2.1.1
  have ht := hc.n h.2.2.1.1
  have T := hc.tk rfl h.1.2.2.1 h.2.1 h.2.2.1.1
  have gg : gi (nI t) 1501 := (n_gi (by omega)).mpr (by omega)
  have h5 := h.2.2.1.2.2.2.2.2.2
  have h6 : zI ρ 1927 0 0 (Int32.toNatClampNeg (nI t)) = nI (qp x t) := by rw [n_cl (by omega)]; exact T.2.2.2.1
  have h7 : zJ ρ 1928 0 0 (Int32.toNatClampNeg (nI t)) = qw x t := by rw [n_cl (by omega)]; exact T.2.2.2.2.1
  have is := fun K (hK : K < 2147483648) => h.is hc K hK
  have hcap1 : qk x t < 202 → qM x = 1 → eL E + l.length < 1500 ∧ eZ E + l.length < 3000 := fun q m => by
    have := hb m; have := hc.n (hc.nx h.2.2.1.1 q); omega
  have ec : ∀ σ', MF σ σ' → zI σ' 260 0 0 0 = ck (qk x t) := fun σ' k => ((k 260 rfl 0 0 0).1).trans h.2.2.1.2.2.2.1
  unfold fX4_factor fX14_factor
  rw [h.2.2.1.2.2.2.1, h.2.2.1.2.2.2.2.1, bq_e (show fX14_is 201 ρ = _ from is 201 (by decide))]
  by_cases q1 : qk x t = 201
  · have hv1 : zJ σ 262 0 0 0 = qw x t := h.2.2.1.2.2.2.2.2.1 (by omega)
    obtain ⟨σ3, ρ3, u1, u2, u3⟩ := x_emit hc h (hcap1 (by omega)) (c := 3) (c2 := 0) (v := qw x t) (v2 := qw x t) ⟨by decide, Or.inr (Or.inl rfl)⟩
    have u1' : fX3_emit (ck (qk x t)) (zJ σ 262 0 0 0) σ = some ((), σ3) := by rw [hv1, q1]; exact u1
    rw [if_neg (show ¬ ck (qk x t) = 2 by rw [q1]; decide), if_pos (show ck (qk x t) = 3 by rw [q1]; decide), if_pos q1, if10, bq_e u1', h5, if_pos gg, h7, bq_e u2]
    exact x_one hc u3 (by omega) y8 (fun _ => rfl) (fun _ h => Or.inl ⟨Or.inl rfl, rfl⟩)
  · rw [if_neg q1, if00, if_neg (show ¬ ck (qk x t) = 3 from ck_ne (j := 201) hv.1 rfl q1), bq_e (show fX14_is 200 ρ = _ from is 200 (by decide))]
    by_cases q2 : qk x t = 200
    · have hv1 : zJ σ 262 0 0 0 = qw x t := h.2.2.1.2.2.2.2.2.1 (by omega)
      rw [if_pos (show ck (qk x t) = 2 by rw [q2]; decide), if_pos q2, if10, hv1, hc.m h.2.1]
      rcases m01 hc with m | m
      · obtain ⟨⟨⟩, σ', e1, k1, k2⟩ := wp_ex (wp_an (k_useColumn (w := qw x t) (y := nI (qp x t)) h.1) (mf_X3_useColumn MF.rf))
        have h' := h.m0 m k1 k2 (l ++ [(2, 0)])
        have e0 : fX14_emit 1 ((0 : Int32).toInt64) ρ = some ((), ρ) := by
          unfold fX14_emit
          rw [hc.m h.2.1, m, if_pos (by rfl)]
        rw [bq_e e1, m, if_pos (by rfl), if_neg (by decide)]
        unfold fX14_factor_81
        rw [h5, if_pos gg, bw_e must_1, bq_e e0]
        exact x_one hc h' (by omega) y8 (o := (2, 0)) (fun m' => by omega) (fun m' => by omega)
      · obtain ⟨g1, g2, g3, g4⟩ := h.2.2.2.2.2.2.2.2 m
        obtain ⟨s1, s2, s3, s4, s5, s6, s7⟩ := hS m
        have f198 : zR σ 198 0 0 0 = (qS x, eA E) := ((g3.1 198 0 (x_wXn rfl rfl) 0 0).2.2).trans s3
        have f910 : zI ρ 910 0 0 0 = nI (eA E) := ((g4.1 910 0 (x_wYn rfl rfl) 0 0).1).trans s4
        have f450 : zI σ 450 (qS x) (eA E) 0 = nI (eW E) := ((g3.1 450 _ (x_wXn rfl rfl) _ 0).1).trans s5
        have f1795 : zI ρ 1795 (qG x) 0 (Int32.toNatClampNeg (nI (eA E))) = nI (eW E) := by rw [n_cl (by omega)]; exact ((g4.1 1795 _ (x_wYn rfl rfl) 0 _).1).trans s6
        have fcn : ∀ c, c < eW E → zJ σ 1475 (qS x) (eA E) c = zJ ρ 1796 (qG x) 0 (6 * eA E + c) := fun c hc => by
          rw [(g3.1 1475 _ (x_wXn rfl rfl) _ c).2.1, (g4.1 1796 _ (x_wYn rfl rfl) 0 _).2.1]; exact s7 c hc
        have hcl : fX14_columnOf (nI (eA E)) (qw x t) ρ = some (nix (fun c => zJ σ 1475 (qS x) (eA E) c) (qw x t) (eW E) 0, ρ) := by
          have r2 : (zR ρ 909 0 0 0).2 = 0 := by rw [hc.g h.2.1]
          have r1 : (zR ρ 909 0 0 0).1 = qG x := by rw [hc.g h.2.1]
          have hix := name_R (c := 1796) (p := qG x) (s := 0) (n0 := 72) (off := 6 * eA E) (N := eW E) (w := qw x t) (ρ := ρ) (by omega) (by decide) (by omega)
          rw [nix_c (g := fun c => zJ σ 1475 (qS x) (eA E) c) _ _ (fun c _ hcc => (fcn c (by omega)).symm)] at hix
          unfold fX14_columnOf
          rw [if_pos r2, if_pos r2, if_pos ((n_gi (by omega)).mpr s1), r1, f1795, i_6, n_mul, bq_e hix]
        have huc : fX3_useColumn (qw x t) (nI (qp x t)) σ = if (0 : Int32) ≤ nix (fun c => zJ σ 1475 (qS x) (eA E) c) (qw x t) (eW E) 0 then bq (fX3_emit 2 ((nix (fun c => zJ σ 1475 (qS x) (eA E) c) (qw x t) (eW E) 0).toInt64) σ) (fun _ z => some ((), z)) else bq (fX3_report 2 (nI (qp x t)) σ) fun _ z => some ((), z) := by
          unfold fX3_useColumn fX3_emit
          have em : ∀ o : Option (Unit × Zs), bq (bq o fun v z => some ((), z)) (fun _ z => some ((), z)) = bq o fun v z => some ((), z) := fun o => by
            rcases o with _ | ⟨v, z⟩
            · rfl
            · rfl
          have r1 : (zR σ 198 0 0 0).1 = qS x := by rw [f198]
          have r2 : (zR σ 198 0 0 0).2 = eA E := by rw [f198]
          rw [if_pos g1, if_pos g1, r1, r2, bq_e (col_C s2 f450), em]
        rw [m, if_neg (by decide), h5, if_pos gg, h7, f910, bq_e hcl, huc]
        rcases nix_r (f := fun c => zJ σ 1475 (qS x) (eA E) c) (w := qw x t) (k := eW E) with e0 | ⟨j, hj, e0⟩
        · obtain ⟨z, r1, r2⟩ := rep_E (E := E) m h.1 h.2.1 g1 (a := 2) (b := nI (qp x t)) (by decide) (by decide)
          rw [e0, if_neg (show ¬ (0 : Int32) ≤ -nI 1 by decide), if_pos (show (-nI 1 : Int32) = -1 from rfl), bq_e r1, bq_s]
          unfold fX14_factor_81
          rw [h5, if_pos gg, h6]
          exact sm_xw (must_e m hc h.2.1) (r2.go fun h => kb (k_takeIn' h) fun _ _ h => h)
        · obtain ⟨σ3, ρ3, u1, u2, u3⟩ := x_emit hc h (hcap1 (by omega)) (c := 2) (c2 := 1) (v := lN j) (v2 := lN j) ⟨by decide, Or.inr (Or.inl rfl)⟩
          rw [e0, if_pos (show (0 : Int32) ≤ nI j by rw [i_0, n_le (by omega) (by omega)]; omega), if_neg (n_mx (a := j) (by omega)), n_i64 (by omega), bq_e u1, bq_s]
          unfold fX14_factor_81
          rw [h5, if_pos gg, bw_e must_1, n_i64 (by omega), bq_e u2]
          exact x_one hc u3 (by omega) y8 (fun _ => rfl) (fun _ h => Or.inl ⟨Or.inr (Or.inr ⟨rfl, j, hj, rfl⟩), rfl⟩)
    · rw [if_neg q2, if00, if_neg (show ¬ ck (qk x t) = 2 from ck_ne (j := 200) hv.1 rfl q2), bq_e (show fX14_is 27 ρ = _ from is 27 (by decide))]
      by_cases q3 : qk x t = 27
      · obtain ⟨σ3, ρ3, u1, u2, u3⟩ := x_emit hc h (hcap1 (by omega)) (c := 155) (c2 := 2) (v := zJ σ 262 0 0 0) (v2 := 0) ⟨by decide, Or.inl rfl⟩
        have u1' : fX3_emit (ck (qk x t)) (zJ σ 262 0 0 0) σ = some ((), σ3) := by rw [q3]; exact u1
        have d : ∀ c : Int32, ¬ (155 : Int32) = c → ¬ ck (qk x t) = c := fun c hc => by rw [q3]; exact hc
        rw [if_neg (d 40 (by decide)), if_neg (d 45 (by decide)), if_neg (d 152 (by decide)), if_neg (d 153 (by decide)), if_pos (show ck (qk x t) = 155 by rw [q3]; decide), if_pos q3, if10, bq_e u1', bq_e u2]
        exact x_one hc u3 (by omega) y8 (fun _ => rfl) (fun _ h => Or.inl ⟨Or.inr (Or.inl rfl), rfl⟩)
      · rw [if_neg q3, if00, bq_e (show fX14_is 100 ρ = _ from is 100 (by decide))]
        have hmin : ∀ (K : Nat) (u c2 : Int32), K < 202 → qk x t = K → (u = 158 ∨ u = 160) → c2 = opc u → SM (Er x (eB E)) (bq (fX4_takeInExpression (ck (qk x t)) (nI dp + 1) σ) fun v σ => if v = 0 then (some ((), σ)) else (bq (kF (nI dp + 1) σ) fun _ σ => bq (fX3_emit u 0 σ) fun _ σ => some ((), σ))) (fX14_factor_204 lE lF c2 ρ) (XQ x E t e dp l) := by
          intro K u c2 hK hq hu hc2
          unfold fX14_factor_204
          refine x_deepT hc h hd (by omega) rfl (fun hd1 σ ρ g => ?_)
          have hb2 : bnd x E (t + 1) l := fun m => by have := hb m; omega
          refine sm_b (hF hd1 _ _ _ σ ρ g hb2) (fun _ σ _ ρ g => ?_) (fun _ _ _ _ g => g.go fun h => kb (k_emit h) fun _ _ h => h)
          obtain ⟨t2, e2, l2, g1, g2, g3, g4⟩ := g
          have ed : (nI (dp + 1) : Int32) - 1 = nI dp := by rw [i_1, n_sub (by omega), Nat.add_sub_cancel]
          rw [lt_k, g1.2.2.2.2.2.2.1, ed]
          obtain ⟨σ3, ρ3, u1, u2, u3⟩ := x_emit hc (g1.dd dp) (cap_of hc g1.2.2.1.1 hb g2 g3 (fun m => (g4 m).1)) (c := u) (c2 := c2) (v := 0) (v2 := 0) ⟨hc2, Or.inr (Or.inl rfl)⟩
          rw [bq_e u1, bq_e u2]
          refine sm_ok ⟨t2, e2, l2 ++ [(u, 0)], ?_, by omega, by omega, fun m => ⟨?_, fun h => ?_⟩⟩
          · rw [← List.append_assoc]; exact u3
          · have := (g4 m).1; rw [List.length_append, List.length_singleton]; omega
          · refine hg_app _ _ (h + 1) ((g4 m).2 h) (hg_un ?_ rfl)
            rcases hu with q | q
            · exact Or.inl q
            · exact Or.inr (Or.inl q)
        by_cases q4 : qk x t = 100
        · rw [if_pos (show ck (qk x t) = 40 by rw [q4]; decide), if_pos q4, if10]
          refine x_deepT hc h hd (by omega) (show ck (qk x t) = 40 by rw [q4]; rfl) (fun hd1 σ ρ g => ?_)
          have hb2 : bnd x E (t + 1) l := fun m => by have := hb m; omega
          refine sm_b (hE hd1 _ _ _ σ ρ g hb2) (fun _ σ _ ρ g => ?_) (fun _ _ _ _ g => g.go fun h => kb (k_takeIn' h) fun _ _ h => h)
          obtain ⟨t2, e2, l2, g1, g2, g3, g4⟩ := g
          refine sm_b (x_take_ hc g1 (K := 101) rfl (by decide) (show ck 101 = 41 from rfl) y8) (fun _ σ _ ρ g => ?_) (fun _ _ _ _ g => g.go fun h => h)
          obtain ⟨_, g⟩ := g
          have ed : (nI (dp + 1) : Int32) - 1 = nI dp := by rw [i_1, n_sub (by omega), Nat.add_sub_cancel]
          rw [lt_k, g.2.2.2.2.2.2.1, ed]
          exact sm_ok ⟨t2 + 1, e2 + 1, l2, g.dd dp, by omega, by omega, fun m => ⟨by have := (g4 m).1; omega, (g4 m).2⟩⟩
        · rw [if_neg q4, if00, if_neg (show ¬ ck (qk x t) = 40 from ck_ne (j := 100) hv.1 rfl q4), bq_e (show fX14_is 106 ρ = _ from is 106 (by decide))]
          by_cases q5 : qk x t = 106
          · have q5' : ck (qk x t) = 45 := by rw [q5]; decide
            rw [if_pos q5', if_pos q5, if10, bq_e (show fX14_is 106 ρ = _ from is 106 (by decide)), if_pos q5, if10]
            simp only [if_pos q5']
            exact hmin 106 160 41 (by decide) q5 (Or.inr rfl) (by decide)
          · have q5' : ¬ ck (qk x t) = 45 := ck_ne (j := 106) hv.1 rfl q5
            rw [if_neg q5', if_neg q5, if00, bq_e (show fX14_is 30 ρ = _ from is 30 (by decide))]
            by_cases q6 : qk x t = 30
            · have d : ∀ c : Int32, ¬ (158 : Int32) = c → ¬ ck (qk x t) = c := fun c hc => by rw [q6]; exact hc
              rw [if_neg (d 152 (by decide)), if_neg (d 153 (by decide)), if_neg (d 155 (by decide)), if_pos (show ck (qk x t) = 158 by rw [q6]; decide), if_pos q6, if10, bq_e (show fX14_is 106 ρ = _ from is 106 (by decide)), if_neg q5, if00]
              simp only [if_neg q5']
              exact hmin 30 158 40 (by decide) q6 (Or.inl rfl) (by decide)
            · rw [if_neg q6, if00]
              have fn : fnK (qk x t) → SM (Er x (eB E)) (bq (fX4_function (ck (qk x t)) (nI dp) kE σ) fun _ z => some ((), z)) (bw (fX14_function lE ρ) fun _ z => some (.ok (), z)) (XQ x E t e dp l) := fun hw =>
                sm_b (x_fun hc hd hE hKE hw h hb) (fun _ _ _ _ g => sm_ok g) (fun _ _ _ _ g => g.go fun h => h)
              by_cases q7 : qk x t = 24
              · rw [if_pos (show ck (qk x t) = 152 by rw [q7]; decide)]
                exact fn (Or.inr (Or.inl q7))
              · rw [if_neg (show ¬ ck (qk x t) = 152 from ck_ne (j := 24) hv.1 rfl q7)]
                by_cases q8 : qk x t = 25
                · rw [if_pos (show ck (qk x t) = 153 by rw [q8]; decide)]
                  exact fn (Or.inr (Or.inr q8))
                · rw [if_neg (show ¬ ck (qk x t) = 153 from ck_ne (j := 25) hv.1 rfl q8), if_neg (show ¬ ck (qk x t) = 155 from ck_ne (j := 27) hv.1 rfl q3), if_neg (show ¬ ck (qk x t) = 158 from ck_ne (j := 30) hv.1 rfl q6)]
                  by_cases q9 : qk x t = 31
                  · rw [if_pos (show ck (qk x t) = 159 by rw [q9]; decide)]
                    exact fn (Or.inl q9)
                  · rw [if_neg (show ¬ ck (qk x t) = 159 from ck_ne (j := 31) hv.1 rfl q9)]
                    have hw : fX14_function lE ρ = some (.error (1, nI (qp x t)), ρ) := by
                      have h6' : zI ρ 1926 0 0 (Int32.toNatClampNeg (nI t)) = nI (qk x t) := by rw [n_cl (by omega)]; exact T.2.2.1
                      have nk : ∀ k : Nat, k < 204 → ¬ qk x t = k → ¬ (nI (qk x t) : Int32) = nI k := fun k hk q z => q ((n_eq (by omega) (by omega)).mp z)
                      unfold fX14_function
                      rw [h5, if_pos gg, if_pos gg, h6', if_neg (show ¬ (nI (qk x t) : Int32) = 31 from nk 31 (by decide) q9), if_neg (show ¬ (nI (qk x t) : Int32) = 24 from nk 24 (by decide) q7), if_neg (show ¬ (nI (qk x t) : Int32) = 25 from nk 25 (by decide) q8), bq_e (h.2.2.1.wr hc h.1.2.2.1 h.2.1)]
                    obtain ⟨⟨⟩, z, r1, r2⟩ := wp_ex (Er.fail h.2.2.1 hc h.1 h.2.1)
                    rw [bq_e r1]
                    exact sm_xw hw r2
theorem x_pfac (hc : Cok x) (hS : qM x = 1 → Scp x (eA E) (eW E) (eC E) (eR E)) : ∀ (n m δ : Nat), δ ≤ 8 → 9 ≤ n + δ → 9 ≤ m + δ → FS x E δ (pfac n (nI δ)) (qfac m) := by
  intro n
  induction n with
  | zero => intro m δ h1 h2 h3; omega
  | succ n ih =>
    intro m δ h1 h2 h3
    obtain ⟨m, rfl⟩ : ∃ j, m = j + 1 := ⟨m - 1, by omega⟩
    have e1 : (nI δ : Int32) + 1 = nI (δ + 1) := by rw [i_1, n_add]
    have hk : δ + 1 ≤ 8 → FK x E (pfac n (nI (δ + 1))) := fun q σ0 z h => k_pfac n (δ + 1) q (by omega) z h
    have h8 : δ + 1 ≤ 8 → (nI (δ + 1) : Int32) ≤ 8 := fun q => by rw [i_8, n_le (by omega) (by omega)]; exact q
    have := x_factor (x := x) (E := E) (dp := δ) (kE := fun d z => fX4_expression d (pfac n) z) (kF := pfac n) (lE := fun z => fX14_expression (qfac m) z) (lF := qfac m) hc hS h1
      (fun q => by rw [e1]; exact x_expr hc (h8 q) (ih m (δ + 1) q (by omega) (by omega)) (hk q))
      (fun q => by rw [e1]; exact fun _ _ h => k_expression (fun z h => hk q _ z h) h)
      (fun q => by rw [e1]; exact ih m (δ + 1) q (by omega) (by omega))
      (fun q => by rw [e1]; exact hk q)
    exact this
end XW
