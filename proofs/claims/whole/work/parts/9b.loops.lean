/-! EXPRESSIONS, both: rows of operators -/
section KL
variable {S b : Nat}
theorem kl_prod {x : Int32} {kF : Int32 → Zs → Option (Unit × Zs)} (hF : ∀ σ0 z, St S b σ0 z → Wp1 (kF x z) fun _ => St S b σ0) : ∀ (k y n : Nat), y + k = 60 → k < n → ∀ σ0 z, St S b σ0 z → Wp1 (fX4_product_7 x kF n (nI y) z) fun _ => St S b σ0 := by
  intro k
  induction k with
  | zero =>
    intro y n h1 h2 σ0 z h
    obtain ⟨n, rfl⟩ : ∃ j, n = j + 1 := ⟨n - 1, by omega⟩
    rw [fX4_product_7, i_60, if_pos ((n_le (by omega) (by omega)).mpr (by omega))]
    exact h
  | succ k ih =>
    intro y n h1 h2 σ0 z h
    obtain ⟨n, rfl⟩ : ∃ j, n = j + 1 := ⟨n - 1, by omega⟩
    rw [fX4_product_7, i_60, if_neg (fun z => by have := (n_le (by omega) (by omega)).mp z; omega)]
    have g : Wp1 (fX4_product_40 x kF (fun by2 σb => fX4_product_7 x kF n by2 σb) (nI y) z) fun _ => St S b σ0 := by
      unfold fX4_product_40
      refine kb (k_takeIn' h) fun _ _ h => kb (hF _ _ h) fun _ _ h => kb (k_emit h) fun _ z h => ?_
      rw [i_1, n_add]; exact ih (y + 1) n (by omega) (by omega) _ _ h
    exact wp_ite g (wp_ite g (wp_ite g h))
theorem kl_sum {x : Int32} {kF : Int32 → Zs → Option (Unit × Zs)} (hF : ∀ σ0 z, St S b σ0 z → Wp1 (kF x z) fun _ => St S b σ0) : ∀ (k y n : Nat), y + k = 60 → k < n → ∀ σ0 z, St S b σ0 z → Wp1 (fX4_sum_7 x kF n (nI y) z) fun _ => St S b σ0 := by
  intro k
  induction k with
  | zero =>
    intro y n h1 h2 σ0 z h
    obtain ⟨n, rfl⟩ : ∃ j, n = j + 1 := ⟨n - 1, by omega⟩
    rw [fX4_sum_7, i_60, if_pos ((n_le (by omega) (by omega)).mpr (by omega))]
    exact h
  | succ k ih =>
    intro y n h1 h2 σ0 z h
    obtain ⟨n, rfl⟩ : ∃ j, n = j + 1 := ⟨n - 1, by omega⟩
    rw [fX4_sum_7, i_60, if_neg (fun z => by have := (n_le (by omega) (by omega)).mp z; omega)]
    have g : Wp1 (fX4_sum_31 x kF (fun by2 σb => fX4_sum_7 x kF n by2 σb) (nI y) z) fun _ => St S b σ0 := by
      unfold fX4_sum_31
      refine kb (k_takeIn' h) fun _ _ h => kb (k_product (hF _) h) fun _ _ h => kb (k_emit h) fun _ z h => ?_
      rw [i_1, n_add]; exact ih (y + 1) n (by omega) (by omega) _ _ h
    exact wp_ite g (wp_ite g h)
theorem kl_both {x : Int32} {kF : Int32 → Zs → Option (Unit × Zs)} (hF : ∀ σ0 z, St S b σ0 z → Wp1 (kF x z) fun _ => St S b σ0) : ∀ (k y n : Nat), y + k = 60 → k < n → ∀ σ0 z, St S b σ0 z → Wp1 (fX4_both_7 x kF n (nI y) z) fun _ => St S b σ0 := by
  intro k
  induction k with
  | zero =>
    intro y n h1 h2 σ0 z h
    obtain ⟨n, rfl⟩ : ∃ j, n = j + 1 := ⟨n - 1, by omega⟩
    rw [fX4_both_7, i_60, if_pos ((n_le (by omega) (by omega)).mpr (by omega))]
    exact h
  | succ k ih =>
    intro y n h1 h2 σ0 z h
    obtain ⟨n, rfl⟩ : ∃ j, n = j + 1 := ⟨n - 1, by omega⟩
    rw [fX4_both_7, i_60, if_neg (fun z => by have := (n_le (by omega) (by omega)).mp z; omega), i_1, n_add]
    exact wp_ite (kb (k_takeIn' h) fun _ _ h => kb (k_relation (hF _) h) fun _ _ h => kb (k_emit h) fun _ z h => ih (y + 1) n (by omega) (by omega) _ _ h) h
theorem kl_expr {x : Int32} {kF : Int32 → Zs → Option (Unit × Zs)} (hF : ∀ σ0 z, St S b σ0 z → Wp1 (kF x z) fun _ => St S b σ0) : ∀ (k y n : Nat), y + k = 60 → k < n → ∀ σ0 z, St S b σ0 z → Wp1 (fX4_expression_7 x kF n (nI y) z) fun _ => St S b σ0 := by
  intro k
  induction k with
  | zero =>
    intro y n h1 h2 σ0 z h
    obtain ⟨n, rfl⟩ : ∃ j, n = j + 1 := ⟨n - 1, by omega⟩
    rw [fX4_expression_7, i_60, if_pos ((n_le (by omega) (by omega)).mpr (by omega))]
    exact h
  | succ k ih =>
    intro y n h1 h2 σ0 z h
    obtain ⟨n, rfl⟩ : ∃ j, n = j + 1 := ⟨n - 1, by omega⟩
    rw [fX4_expression_7, i_60, if_neg (fun z => by have := (n_le (by omega) (by omega)).mp z; omega), i_1, n_add]
    exact wp_ite (kb (k_takeIn' h) fun _ _ h => kb (k_both (hF _) h) fun _ _ h => kb (k_emit h) fun _ z h => ih (y + 1) n (by omega) (by omega) _ _ h) h
end KL
def XQ0 (x : Cx) (E : Ex) (t e dp : Nat) (l : List Op) : Unit → Zs → Unit → Zs → Prop := fun _ σ _ ρ => ∃ t' e' l2, XP x E t' e' dp (l ++ l2) σ ρ ∧ e ≤ e' ∧ t' + e = t + e' ∧ (qM x = 1 → l2.length ≤ e' - e ∧ ∀ h, hg (eW E) (h + 1) l2 (h + 1))
theorem is_of {ρ : Zs} {t k : Nat} (ht : t ≤ 1500) (hk : k < 204) (h1 : zI ρ 905 0 0 0 = nI t) (h2 : zI ρ 1926 0 0 t = nI k) (K : Nat) (hK : K < 2147483648) : fX14_is (nI K) ρ = some (if k = K then 1 else 0, ρ) := by
  unfold fX14_is
  rw [h1, if_pos ((n_gi (by omega)).mpr (by omega)), n_cl (by omega), h2]
  by_cases q : k = K
  · rw [if_pos (by rw [q]), if_pos q]
  · rw [if_neg (fun z => q ((n_eq (by omega) hK).mp z)), if_neg q]
theorem hg_bin {W h k : Nat} {c : Int32} {v : Int64} {l : List Op} (hc : ∃ b, opF opT c = some b) (h2 : hg W (h + 1) l k) : hg W (h + 2) ((c, v) :: l) k := Or.inr (Or.inr ⟨hc, by omega, h2⟩)
section XL
variable {x : Cx} {E : Ex} {dp : Nat}
theorem opc_of {c b : Int32} (h : opF opT c = some b) : b = opc c := by
  rcases opF_c h with ⟨rfl, rfl⟩ | ⟨rfl, rfl⟩ | ⟨rfl, rfl⟩ | ⟨rfl, rfl⟩ | ⟨rfl, rfl⟩ | ⟨rfl, rfl⟩ | ⟨rfl, rfl⟩ | ⟨rfl, rfl⟩ | ⟨rfl, rfl⟩ | ⟨rfl, rfl⟩ | ⟨rfl, rfl⟩ | ⟨rfl, rfl⟩ | ⟨rfl, rfl⟩ | ⟨rfl, rfl⟩ | ⟨rfl, rfl⟩ <;> decide
theorem cap_of (hc : Cok x) {t e t2 e2 : Nat} {l l2 : List Op} (ht : t2 < qN x) (hb : bnd x E t l) (h1 : e + 1 < e2) (h2 : t2 + (e + 1) = t + 1 + e2) (h3 : qM x = 1 → l2.length ≤ e2 - (e + 1)) : qM x = 1 → eL E + (l ++ l2).length < 1500 ∧ eZ E + (l ++ l2).length < 3000 := fun m => by
  obtain ⟨b1, b2⟩ := hb m
  have := h3 m
  have := hc.n ht
  rw [List.length_append]
  omega
theorem bnd_of {t e t2 e2 : Nat} {l l2 : List Op} (hb : bnd x E t l) (h2 : t2 + e = t + e2) (h1 : e ≤ e2) (h3 : qM x = 1 → l2.length ≤ e2 - e) : bnd x E t2 (l ++ l2) := fun m => by
  obtain ⟨b1, b2⟩ := hb m
  have := h3 m
  rw [List.length_append]
  omega
theorem x_loop (hc : Cok x) {ops : Nat → Bool} {lc : Nat → Int32} (hops : ∀ k, ops k = true → k < 202 ∧ opF opT (ck k) = some (lc k)) {cs : Zs → Option (Unit × Zs)} {ls : Zs → Option (Except (Int32 × Int32) Unit × Zs)} (hs : FS x E dp cs ls) (hks : FK x E cs) {cL : Nat → Int32 → Zs → Option (Unit × Zs)} {lL : Nat → Zs → Option (Except (Int32 × Int32) Unit × Zs)} (y8 : (nI dp : Int32) ≤ 8)
    (hC : ∀ n y k σ, y < 60 → vk k = true → zI σ 260 0 0 0 = ck k → cL (n + 1) (nI y) σ = if ops k = true then bq (fX4_takeInExpression (ck k) (nI dp) σ) (fun _ z => bq (cs z) fun _ z => bq (fX3_emit (ck k) 0 z) fun _ z => cL n (nI (y + 1)) z) else some ((), σ))
    (hL : ∀ n t k ρ, t ≤ 1500 → k < 204 → zI ρ 905 0 0 0 = nI t → zI ρ 1926 0 0 t = nI k → lL (n + 1) ρ = if ops k = true then bw (fX14_take ρ) (fun _ z => bw (ls z) fun _ z => bq (fX14_emit (lc k) 0 z) fun _ z => lL n z) else some (.ok (), ρ))
    (hK : ∀ k y n, y + k = 60 → k < n → FK x E (cL n (nI y))) :
    ∀ (r t e : Nat) (l : List Op) (y n m : Nat) (σ ρ : Zs), r + e = 60 → y + 1 ≤ e → 60 < n + y → r < m → XP x E t e dp l σ ρ → bnd x E t l → SM (Er x (eB E)) (cL n (nI y) σ) (lL m ρ) (XQ0 x E t e dp l) := by
  intro r
  induction r using Nat.strongRecOn with
  | ind r ih =>
    intro t e l y n m σ ρ h1 h2 h3 h4 h hb
    have he := h.2.2.2.2.1
    obtain ⟨n, rfl⟩ : ∃ j, n = j + 1 := ⟨n - 1, by omega⟩
    obtain ⟨m, rfl⟩ : ∃ j, m = j + 1 := ⟨m - 1, by omega⟩
    have hv := PSt.k204 hc h.2.2.1.1
    have T := hc.tk rfl h.1.2.2.1 h.2.1 h.2.2.1.1
    rw [hC n y (qk x t) σ (by omega) hv.1 h.2.2.1.2.2.2.1, hL m t (qk x t) ρ (hc.n h.2.2.1.1) hv.2 h.2.2.1.2.2.2.2.2.2 T.2.2.1]
    by_cases q : ops (qk x t) = true
    · obtain ⟨k1, k2⟩ := hops _ q
      rw [if_pos q, if_pos q]
      refine sm_b (x_take hc h k1 rfl y8) (fun _ σ _ ρ g => ?_) (fun _ _ _ _ g => g.go fun h => kb (hks _ _ h) fun _ _ h => kb (k_emit h) fun _ _ h => hK (60 - (y + 1)) (y + 1) n (by omega) (by omega) _ _ h)
      have hb2 : bnd x E (t + 1) l := fun m => by have := hb m; omega
      refine sm_b (hs (t + 1) (e + 1) l σ ρ g.2 hb2) (fun _ σ _ ρ g => ?_) (fun _ _ _ _ g => g.go fun h => kb (k_emit h) fun _ _ h => hK (60 - (y + 1)) (y + 1) n (by omega) (by omega) _ _ h)
      obtain ⟨t2, e2, l2, g1, g2, g3, g4⟩ := g
      obtain ⟨σ3, ρ3, u1, u2, u3⟩ := x_emit hc g1 (cap_of hc g1.2.2.1.1 hb g2 g3 (fun m => (g4 m).1)) (c := ck (qk x t)) (c2 := lc (qk x t)) (v := 0) (v2 := 0) ⟨opc_of k2, Or.inr (Or.inl rfl)⟩
      refine sm_l u1 (sm_r u2 ?_)
      have he2 := g1.2.2.2.2.1
      rw [List.append_assoc] at u3
      have hb3 : bnd x E t2 (l ++ (l2 ++ [(ck (qk x t), 0)])) := bnd_of hb (e := e) (e2 := e2) (by omega) (by omega) (fun m => by have := (g4 m).1; rw [List.length_append, List.length_singleton]; omega)
      refine sm_m (ih (60 - e2) (by omega) t2 e2 _ (y + 1) n m σ3 ρ3 (by omega) (by omega) (by omega) (by omega) u3 hb3) ?_
      rintro _ σ4 _ ρ4 ⟨t4, e4, l4, v1, v2, v3, v4⟩
      refine ⟨t4, e4, (l2 ++ [(ck (qk x t), 0)]) ++ l4, ?_, by omega, by omega, fun m => ⟨?_, fun h => ?_⟩⟩
      · rw [← List.append_assoc]; exact v1
      · have := (g4 m).1; have := (v4 m).1
        rw [List.length_append, List.length_append, List.length_singleton]; omega
      · rw [List.append_assoc]
        refine hg_app _ _ (h + 2) ((g4 m).2 (h + 1)) ?_
        exact hg_bin ⟨_, k2⟩ ((v4 m).2 h)
    · rw [if_neg q, if_neg q]
      refine sm_ok ⟨t, e, [], ?_, Nat.le_refl _, rfl, fun _ => ⟨Nat.zero_le _, fun h => rfl⟩⟩
      rw [List.append_nil]; exact h
/-- a first operand, then a row of operators -/
theorem x_row (hc : Cok x) {ops : Nat → Bool} {lc : Nat → Int32} (hops : ∀ k, ops k = true → k < 202 ∧ opF opT (ck k) = some (lc k)) {cs : Zs → Option (Unit × Zs)} {ls : Zs → Option (Except (Int32 × Int32) Unit × Zs)} (hs : FS x E dp cs ls) (hks : FK x E cs) {cL : Nat → Int32 → Zs → Option (Unit × Zs)} {lL : Nat → Zs → Option (Except (Int32 × Int32) Unit × Zs)} (y8 : (nI dp : Int32) ≤ 8)
    (hC : ∀ n y k σ, y < 60 → vk k = true → zI σ 260 0 0 0 = ck k → cL (n + 1) (nI y) σ = if ops k = true then bq (fX4_takeInExpression (ck k) (nI dp) σ) (fun _ z => bq (cs z) fun _ z => bq (fX3_emit (ck k) 0 z) fun _ z => cL n (nI (y + 1)) z) else some ((), σ))
    (hL : ∀ n t k ρ, t ≤ 1500 → k < 204 → zI ρ 905 0 0 0 = nI t → zI ρ 1926 0 0 t = nI k → lL (n + 1) ρ = if ops k = true then bw (fX14_take ρ) (fun _ z => bw (ls z) fun _ z => bq (fX14_emit (lc k) 0 z) fun _ z => lL n z) else some (.ok (), ρ))
    (hK : ∀ k y n, y + k = 60 → k < n → FK x E (cL n (nI y))) : FS x E dp (fun σ => bq (cs σ) fun _ z => cL FU 0 z) (fun ρ => bw (ls ρ) fun _ z => lL FU z) := by
  intro t e l σ ρ h hb
  have hFU : FU = 20000 := rfl
  refine sm_b (hs t e l σ ρ h hb) (fun _ σ _ ρ g => ?_) (fun _ _ _ _ g => g.go fun h => hK 60 0 FU (by omega) (by omega) _ _ h)
  obtain ⟨t2, e2, l2, g1, g2, g3, g4⟩ := g
  have he2 := g1.2.2.2.2.1
  refine sm_m (x_loop hc hops hs hks y8 hC hL hK (60 - e2) t2 e2 (l ++ l2) 0 FU FU σ ρ (by omega) (by omega) (by omega) (by omega) g1 (bnd_of hb g3 (by omega) (fun m => (g4 m).1))) ?_
  rintro _ σ4 _ ρ4 ⟨t4, e4, l4, v1, v2, v3, v4⟩
  refine ⟨t4, e4, l2 ++ l4, ?_, by omega, by omega, fun m => ⟨?_, fun h => ?_⟩⟩
  · rw [← List.append_assoc]; exact v1
  · have := (g4 m).1; have := (v4 m).1
    rw [List.length_append]; omega
  · exact hg_app _ _ (h + 1) ((g4 m).2 h) ((v4 m).2 h)
theorem ck_ne {k j : Nat} (hk : vk k = true) (hj : vk j = true) (q : ¬ k = j) : ¬ ck k = ck j := fun z => q ((ck_e hk hj).mp z)
theorem x_prod (hc : Cok x) (y8 : (nI dp : Int32) ≤ 8) {kF : Int32 → Zs → Option (Unit × Zs)} {lF : Zs → Option (Except (Int32 × Int32) Unit × Zs)} (hF : FS x E dp (kF (nI dp)) lF) (hK : FK x E (kF (nI dp))) : FS x E dp (fX4_product (nI dp) kF) (fX14_product lF) := by
  have ops : ∀ k, (decide (k = 107) || decide (k = 108) || decide (k = 109)) = true → k < 202 ∧ opF opT (ck k) = some (10 + (nI k - 105)) := by
    intro k hk
    simp only [Bool.or_eq_true, decide_eq_true_eq] at hk
    rcases hk with (rfl | rfl) | rfl
    · exact ⟨by decide, by decide⟩
    · exact ⟨by decide, by decide⟩
    · exact ⟨by decide, by decide⟩
  refine x_row hc ops hF hK (cL := fX4_product_7 (nI dp) kF) (lL := fX14_product_4 lF) y8 (fun n y k σ hy hv hk => ?_) (fun n t k ρ ht hk h1 h2 => ?_) (fun k y n h1 h2 σ0 z h => kl_prod (fun σ0 z h => hK σ0 z h) k y n h1 h2 σ0 z h)
  · have g : ck k = zI σ 260 0 0 0 → fX4_product_40 (nI dp) kF (fun by2 σb => fX4_product_7 (nI dp) kF n by2 σb) (nI y) σ = bq (fX4_takeInExpression (ck k) (nI dp) σ) (fun _ z => bq (kF (nI dp) z) fun _ z => bq (fX3_emit (ck k) 0 z) fun _ z => fX4_product_7 (nI dp) kF n (nI (y + 1)) z) := fun e => by
      unfold fX4_product_40
      rw [← e, i_1, n_add]
    rw [fX4_product_7, i_60, if_neg (fun z => by have := (n_le (by omega) (by omega)).mp z; omega), g hk.symm, hk]
    by_cases q1 : k = 107
    · subst q1
      rw [if_pos (show ck 107 = 42 from rfl), if_pos (by decide)]
    · rw [if_neg (show ¬ ck (k) = 42 from ck_ne (j := 107) hv rfl q1)]
      by_cases q2 : k = 108
      · subst q2
        rw [if_pos (show ck 108 = 47 from rfl), if_pos (by decide)]
      · rw [if_neg (show ¬ ck (k) = 47 from ck_ne (j := 108) hv rfl q2)]
        by_cases q3 : k = 109
        · subst q3
          rw [if_pos (show ck 109 = 37 from rfl), if_pos (by decide)]
        · rw [if_neg (show ¬ ck (k) = 37 from ck_ne (j := 109) hv rfl q3), if_neg]
          simp only [Bool.or_eq_true, decide_eq_true_eq]
          omega
  · have gg : gi (nI t) 1501 := (n_gi (by omega)).mpr (by omega)
    have h2' : zI ρ 1926 0 0 (Int32.toNatClampNeg (nI t)) = nI k := by rw [n_cl (by omega)]; exact h2
    rw [fX14_product_4, h1, if_pos gg, h2', bq_e (show fX14_isIn (nI k).toInt64 107 109 ρ = _ from in_R (lo := 107) (hi := 109) (by omega) (by decide) (by decide))]
    by_cases q : 107 ≤ k ∧ k ≤ 109
    · rw [if_pos q, if10, h1, if_pos gg, if_pos]
      · refine congrArg _ (funext fun _ => funext fun z => congrArg _ (funext fun _ => funext fun z => ?_))
        rw [h2']
      · simp only [Bool.or_eq_true, decide_eq_true_eq]; omega
    · rw [if_neg q, if00, if_neg]
      simp only [Bool.or_eq_true, decide_eq_true_eq]; omega
theorem x_sum (hc : Cok x) (y8 : (nI dp : Int32) ≤ 8) {kF : Int32 → Zs → Option (Unit × Zs)} {lF : Zs → Option (Except (Int32 × Int32) Unit × Zs)} (hF : FS x E dp (kF (nI dp)) lF) (hK : FK x E (kF (nI dp))) : FS x E dp (fX4_sum (nI dp) kF) (fX14_sum lF) := by
  have ops : ∀ k, (decide (k = 105) || decide (k = 106)) = true → k < 202 ∧ opF opT (ck k) = some (10 + (nI k - 105)) := by
    intro k hk
    simp only [Bool.or_eq_true, decide_eq_true_eq] at hk
    rcases hk with rfl | rfl
    · exact ⟨by decide, by decide⟩
    · exact ⟨by decide, by decide⟩
  refine x_row hc ops (x_prod hc y8 hF hK) (fun _ _ h => k_product (fun z h => hK _ z h) h) (cL := fX4_sum_7 (nI dp) kF) (lL := fX14_sum_4 lF) y8 (fun n y k σ hy hv hk => ?_) (fun n t k ρ ht hk h1 h2 => ?_) (fun k y n h1 h2 σ0 z h => kl_sum (fun σ0 z h => hK σ0 z h) k y n h1 h2 σ0 z h)
  · have g : ck k = zI σ 260 0 0 0 → fX4_sum_31 (nI dp) kF (fun by2 σb => fX4_sum_7 (nI dp) kF n by2 σb) (nI y) σ = bq (fX4_takeInExpression (ck k) (nI dp) σ) (fun _ z => bq (fX4_product (nI dp) kF z) fun _ z => bq (fX3_emit (ck k) 0 z) fun _ z => fX4_sum_7 (nI dp) kF n (nI (y + 1)) z) := fun e => by
      unfold fX4_sum_31
      rw [← e, i_1, n_add]
    rw [fX4_sum_7, i_60, if_neg (fun z => by have := (n_le (by omega) (by omega)).mp z; omega), g hk.symm, hk]
    by_cases q1 : k = 105
    · subst q1
      rw [if_pos (show ck 105 = 43 from rfl), if_pos (by decide)]
    · rw [if_neg (show ¬ ck (k) = 43 from ck_ne (j := 105) hv rfl q1)]
      by_cases q2 : k = 106
      · subst q2
        rw [if_pos (show ck 106 = 45 from rfl), if_pos (by decide)]
      · rw [if_neg (show ¬ ck (k) = 45 from ck_ne (j := 106) hv rfl q2), if_neg]
        simp only [Bool.or_eq_true, decide_eq_true_eq]
        omega
  · have gg : gi (nI t) 1501 := (n_gi (by omega)).mpr (by omega)
    have h2' : zI ρ 1926 0 0 (Int32.toNatClampNeg (nI t)) = nI k := by rw [n_cl (by omega)]; exact h2
    have g : fX14_sum_22 lF (fun ρb => fX14_sum_4 lF n ρb) ρ = bw (fX14_take ρ) (fun _ z => bw (fX14_product lF z) fun _ z => bq (fX14_emit (10 + (nI k - 105)) 0 z) fun _ z => fX14_sum_4 lF n z) := by
      unfold fX14_sum_22
      rw [h1, if_pos gg, h2']
    rw [fX14_sum_4, bq_e (show fX14_is 105 ρ = _ from is_of ht hk h1 h2 105 (by decide)), g]
    by_cases q1 : k = 105
    · rw [if_pos q1, if10, if_pos]
      simp only [Bool.or_eq_true, decide_eq_true_eq]; omega
    · rw [if_neg q1, if00, bq_e (show fX14_is 106 ρ = _ from is_of ht hk h1 h2 106 (by decide))]
      by_cases q2 : k = 106
      · rw [if_pos q2, if10, if_pos]
        · exact g
        · simp only [Bool.or_eq_true, decide_eq_true_eq]; omega
      · rw [if_neg q2, if00, if_neg]
        simp only [Bool.or_eq_true, decide_eq_true_eq]; omega
def relK (k : Nat) : Option Nat := if k = 104 then some 0 else if k = 114 then some 1 else if k = 110 then some 2 else if k = 111 then some 3 else if k = 112 then some 4 else if k = 113 then some 5 else none
theorem x_rel (hc : Cok x) (y8 : (nI dp : Int32) ≤ 8) {kF : Int32 → Zs → Option (Unit × Zs)} {lF : Zs → Option (Except (Int32 × Int32) Unit × Zs)} (hF : FS x E dp (kF (nI dp)) lF) (hK : FK x E (kF (nI dp))) : FS x E dp (fX4_relation (nI dp) kF) (fX14_relation lF) := by
  have hs := x_sum hc y8 hF hK
  have hks : FK x E (fX4_sum (nI dp) kF) := fun _ _ h => k_sum (fun z h => hK _ z h) h
  have kr : ∀ (k : Int32) (σ0 z : Zs), St (qS x) (eB E) σ0 z → Wp1 (fX4_relation_49 (nI dp) kF k z) fun _ => St (qS x) (eB E) σ0 := fun k σ0 z h => by
    unfold fX4_relation_49
    exact kb (k_takeIn' h) fun _ _ h => kb (hks _ _ h) fun _ _ h => kb (k_emit h) fun _ _ h => h
  intro t e l σ ρ h hb
  unfold fX4_relation fX14_relation
  refine sm_b (hs t e l σ ρ h hb) (fun _ σ _ ρ g => ?_) (fun _ σ _ _ g => g.go fun h => ?_)
  · obtain ⟨t2, e2, l2, g1, g2, g3, g4⟩ := g
    have hv := PSt.k204 hc g1.2.2.1.1
    have hk := g1.2.2.1.2.2.2.1
    have T := hc.tk rfl g1.1.2.2.1 g1.2.1 g1.2.2.1.1
    have is := fun K (hK : K < 2147483648) => g1.is hc K hK
    -- with an operator
    have op : ∀ j, qk x t2 < 202 → opF opT (ck (qk x t2)) = some (20 + nI j) → j < 6 → SM (Er x (eB E)) (fX4_relation_49 (nI dp) kF (ck (qk x t2)) σ) (fX14_relation_83 lF (nI j) ρ) (XQ x E t e dp l) := by
      intro j k1 k2 hj
      unfold fX4_relation_49 fX14_relation_83
      rw [if_neg (n_mx (a := j) (by omega))]
      refine sm_b (x_take hc g1 k1 rfl y8) (fun _ σ _ ρ g => ?_) (fun _ _ _ _ g => g.go fun h => kb (hks _ _ h) fun _ _ h => kb (k_emit h) fun _ _ h => h)
      have hb2 : bnd x E t2 (l ++ l2) := bnd_of hb g3 (by omega) (fun m => (g4 m).1)
      have hb3 : bnd x E (t2 + 1) (l ++ l2) := fun m => by have := hb2 m; omega
      refine sm_b (hs (t2 + 1) (e2 + 1) _ σ ρ g.2 hb3) (fun _ σ _ ρ g => ?_) (fun _ _ _ _ g => g.go fun h => kb (k_emit h) fun _ _ h => h)
      obtain ⟨t4, e4, l4, v1, v2, v3, v4⟩ := g
      obtain ⟨σ3, ρ3, u1, u2, u3⟩ := x_emit hc v1 (cap_of hc v1.2.2.1.1 hb2 v2 v3 (fun m => (v4 m).1)) (c := ck (qk x t2)) (c2 := 20 + nI j) (v := 0) (v2 := 0) ⟨opc_of k2, Or.inr (Or.inl rfl)⟩
      refine sm_l u1 (sm_r u2 (sm_ok ⟨t4, e4, l2 ++ (l4 ++ [(ck (qk x t2), 0)]), ?_, by omega, by omega, fun m => ⟨?_, fun h => ?_⟩⟩))
      · rw [← List.append_assoc, ← List.append_assoc]; exact u3
      · have := (g4 m).1; have := (v4 m).1
        rw [List.length_append, List.length_append, List.length_singleton]; omega
      · exact hg_app _ _ (h + 1) ((g4 m).2 h) (hg_app _ _ (h + 2) ((v4 m).2 (h + 1)) (hg_bin ⟨_, k2⟩ rfl))
    rw [hk, bq_e (show fX14_is 104 ρ = _ from is 104 (by decide))]
    by_cases q1 : qk x t2 = 104
    · have := op 0 (by omega) (by rw [q1]; decide) (by decide)
      rw [q1] at this ⊢
      rw [if_pos (show ck 104 = 61 from rfl), if_pos rfl, if10]; exact this
    · rw [if_neg (show ¬ ck (qk x t2) = 61 from ck_ne (j := 104) hv.1 rfl q1), if_neg q1, if00, bq_e (show fX14_is 114 ρ = _ from is 114 (by decide))]
      by_cases q2 : qk x t2 = 114
      · have := op 1 (by omega) (by rw [q2]; decide) (by decide)
        rw [q2] at this ⊢
        rw [if_neg (by decide), if_neg (by decide), if_pos (show ck 114 = 15422 from rfl), if_pos rfl, if10]; exact this
      · rw [if_neg q2, if00, bq_e (show fX14_is 110 ρ = _ from is 110 (by decide))]
        by_cases q3 : qk x t2 = 110
        · have := op 2 (by omega) (by rw [q3]; decide) (by decide)
          rw [q3] at this ⊢
          rw [if_pos (show ck 110 = 60 from rfl), if_pos rfl, if10]; exact this
        · rw [if_neg (show ¬ ck (qk x t2) = 60 from ck_ne (j := 110) hv.1 rfl q3), if_neg q3, if00, bq_e (show fX14_is 111 ρ = _ from is 111 (by decide))]
          by_cases q4 : qk x t2 = 111
          · have := op 3 (by omega) (by rw [q4]; decide) (by decide)
            rw [q4] at this ⊢
            rw [if_pos (show ck 111 = 62 from rfl), if_pos rfl, if10]; exact this
          · rw [if_neg (show ¬ ck (qk x t2) = 62 from ck_ne (j := 111) hv.1 rfl q4), if_neg (show ¬ ck (qk x t2) = 15422 from ck_ne (j := 114) hv.1 rfl q2), if_neg q4, if00, bq_e (show fX14_is 112 ρ = _ from is 112 (by decide))]
            by_cases q5 : qk x t2 = 112
            · have := op 4 (by omega) (by rw [q5]; decide) (by decide)
              rw [q5] at this ⊢
              rw [if_pos (show ck 112 = 15421 from rfl), if_pos rfl, if10]; exact this
            · rw [if_neg (show ¬ ck (qk x t2) = 15421 from ck_ne (j := 112) hv.1 rfl q5), if_neg q5, if00, bq_e (show fX14_is 113 ρ = _ from is 113 (by decide))]
              by_cases q6 : qk x t2 = 113
              · have := op 5 (by omega) (by rw [q6]; decide) (by decide)
                rw [q6] at this ⊢
                rw [if_pos (show ck 113 = 15933 from rfl), if_pos rfl, if10]; exact this
              · rw [if_neg (show ¬ ck (qk x t2) = 15933 from ck_ne (j := 113) hv.1 rfl q6), if_neg q6, if00]
                unfold fX14_relation_83
                rw [if_pos rfl]
                exact sm_ok ⟨t2, e2, l2, g1, g2, g3, g4⟩
  · have g := kr (zI σ 260 0 0 0) _ _ h
    exact wp_ite g (wp_ite g (wp_ite g (wp_ite g (wp_ite g (wp_ite g h)))))
theorem x_both (hc : Cok x) (y8 : (nI dp : Int32) ≤ 8) {kF : Int32 → Zs → Option (Unit × Zs)} {lF : Zs → Option (Except (Int32 × Int32) Unit × Zs)} (hF : FS x E dp (kF (nI dp)) lF) (hK : FK x E (kF (nI dp))) : FS x E dp (fX4_both (nI dp) kF) (fX14_both lF) := by
  have ops : ∀ k, decide (k = 28) = true → k < 202 ∧ opF opT (ck k) = some 30 := by
    intro k hk
    simp only [decide_eq_true_eq] at hk
    subst hk
    exact ⟨by decide, by decide⟩
  refine x_row hc ops (x_rel hc y8 hF hK) (fun _ _ h => k_relation (fun z h => hK _ z h) h) (cL := fX4_both_7 (nI dp) kF) (lL := fX14_both_4 lF) y8 (fun n y k σ hy hv hk => ?_) (fun n t k ρ ht hk h1 h2 => ?_) (fun k y n h1 h2 σ0 z h => kl_both (fun σ0 z h => hK σ0 z h) k y n h1 h2 σ0 z h)
  · rw [fX4_both_7, i_60, if_neg (fun z => by have := (n_le (by omega) (by omega)).mp z; omega), hk, i_1, n_add]
    by_cases q1 : k = 28
    · subst q1
      rw [if_pos (show ck 28 = 156 from rfl), if_pos (by decide)]; rfl
    · rw [if_neg (show ¬ ck (k) = 156 from ck_ne (j := 28) hv rfl q1), if_neg (by simpa using q1)]
  · rw [fX14_both_4, bq_e (show fX14_is 28 ρ = _ from is_of ht hk h1 h2 28 (by decide))]
    by_cases q1 : k = 28
    · rw [if_pos q1, if10, if_pos (by simpa using q1)]
    · rw [if_neg q1, if00, if_neg (by simpa using q1)]
theorem x_expr (hc : Cok x) (y8 : (nI dp : Int32) ≤ 8) {kF : Int32 → Zs → Option (Unit × Zs)} {lF : Zs → Option (Except (Int32 × Int32) Unit × Zs)} (hF : FS x E dp (kF (nI dp)) lF) (hK : FK x E (kF (nI dp))) : FS x E dp (fX4_expression (nI dp) kF) (fX14_expression lF) := by
  have ops : ∀ k, decide (k = 29) = true → k < 202 ∧ opF opT (ck k) = some 31 := by
    intro k hk
    simp only [decide_eq_true_eq] at hk
    subst hk
    exact ⟨by decide, by decide⟩
  refine x_row hc ops (x_both hc y8 hF hK) (fun _ _ h => k_both (fun z h => hK _ z h) h) (cL := fX4_expression_7 (nI dp) kF) (lL := fX14_expression_4 lF) y8 (fun n y k σ hy hv hk => ?_) (fun n t k ρ ht hk h1 h2 => ?_) (fun k y n h1 h2 σ0 z h => kl_expr (fun σ0 z h => hK σ0 z h) k y n h1 h2 σ0 z h)
  · rw [fX4_expression_7, i_60, if_neg (fun z => by have := (n_le (by omega) (by omega)).mp z; omega), hk, i_1, n_add]
    by_cases q1 : k = 29
    · subst q1
      rw [if_pos (show ck 29 = 157 from rfl), if_pos (by decide)]; rfl
    · rw [if_neg (show ¬ ck (k) = 157 from ck_ne (j := 29) hv rfl q1), if_neg (by simpa using q1)]
  · rw [fX14_expression_4, bq_e (show fX14_is 29 ρ = _ from is_of ht hk h1 h2 29 (by decide))]
    by_cases q1 : k = 29
    · rw [if_pos q1, if10, if_pos (by simpa using q1)]
    · rw [if_neg q1, if00, if_neg (by simpa using q1)]
end XL
