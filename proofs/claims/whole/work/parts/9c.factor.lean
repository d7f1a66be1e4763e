/-! EXPRESSIONS, both: factors, functions, whole ones -/
theorem kl_fun {S b : Nat} {x y : Int32} {kE : Int32 → Zs → Option (Unit × Zs)} (hE : ∀ σ0 z, St S b σ0 z → Wp1 (kE (y + 1) z) fun _ => St S b σ0) : ∀ (k u n : Nat), u + k = 60 → k < n → ∀ (y3 y4 : Int32) σ0 z, St S b σ0 z → Wp1 (fX4_function_38 x y kE n y3 y4 (nI u) z) fun _ => St S b σ0 := by
  intro k
  induction k with
  | zero =>
    intro u n h1 h2 y3 y4 σ0 z h
    obtain ⟨n, rfl⟩ : ∃ j, n = j + 1 := ⟨n - 1, by omega⟩
    rw [fX4_function_38, i_60, if_pos ((n_le (by omega) (by omega)).mpr (by omega))]
    exact kb (k_takeIn' h) fun _ _ h => kb (k_endFunction h) fun _ _ h => h
  | succ k ih =>
    intro u n h1 h2 y3 y4 σ0 z h
    obtain ⟨n, rfl⟩ : ∃ j, n = j + 1 := ⟨n - 1, by omega⟩
    rw [fX4_function_38, i_60, if_neg (fun z => by have := (n_le (by omega) (by omega)).mp z; omega)]
    refine wp_ite (kb (k_takeIn' h) fun _ _ h => kb (hE _ _ h) fun _ z h => ?_) (kb (k_takeIn' h) fun _ _ h => kb (k_endFunction h) fun _ _ h => h)
    rw [show (nI u : Int32) + 1 = nI (u + 1) by rw [i_1, n_add]]
    exact ih (u + 1) n (by omega) (by omega) _ _ _ _ h
section XF
variable {x : Cx} {E : Ex} {t e dp : Nat} {l : List Op} {σ ρ : Zs}
theorem XP.dd (h : XP x E t e dp l σ ρ) (d2 : Nat) : XP x E t e d2 l σ (sI ρ 907 0 0 0 (nI d2)) := by
  obtain ⟨h1, h2, h3, h4, h5, h6, h7, h8⟩ := h
  refine ⟨h1, h2.I (wl0 rfl), h3, h4, h5, h6, rfl, h8.1.I (x_wY0 rfl) (fun z => by cases z), fun m => ?_⟩
  obtain ⟨g1, g2, g3, g4⟩ := h8.2 m
  exact ⟨g1, g2, g3, g4.I (x_wY0 rfl) (fun z => by cases z)⟩
theorem XP.m0 (h : XP x E t e dp l σ ρ) (m : qM x = 0) {σ' : Zs} (k : St (qS x) (eB E) (qC x) σ') (k2 : MF σ σ') (l2 : List Op) : XP x E t e dp l2 σ' ρ := by
  obtain ⟨h1, h2, h3, h4, h5, h6, h7, h8⟩ := h
  exact ⟨k, h2, h3.mf k2, ((k2 263 rfl 0 0 0).1).trans h4, h5, h6, h7, h8.1, fun q => by omega⟩
theorem x_deep (h : XP x E t e dp l σ ρ) (hd : dp < 8) : fX14_deeper ρ = some (.ok (), sI ρ 907 0 0 0 (nI (dp + 1))) := by
  unfold fX14_deeper
  rw [h.2.2.2.2.2.2.1, if_neg (show ¬ (nI dp : Int32) = 8 by rw [i_8, n_eq (by omega) (by omega)]; omega), lt_k, i_1, n_add]
theorem x_deepw (hc : Cok x) (h : XP x E t e dp l σ ρ) (hd : dp = 8) : fX14_deeper ρ = some (.error (1, nI (qp x t)), ρ) := by
  unfold fX14_deeper
  subst hd
  rw [h.2.2.2.2.2.2.1, if_pos (show (nI 8 : Int32) = 8 from rfl), bq_e (h.2.2.1.wr hc h.1.2.2.1 h.2.1)]
theorem dp_8 (hd : dp + 1 ≤ 8) : (nI dp : Int32) + 1 ≤ 8 := by rw [i_1, n_add, i_8, n_le (by omega) (by omega)]; exact hd
theorem dp_9 (hd : dp = 8) : ¬ (nI dp : Int32) + 1 ≤ 8 := by subst hd; decide
/-- a token behind which it is deeper -/
theorem x_deepT (hc : Cok x) (h : XP x E t e dp l σ ρ) (hd : dp ≤ 8) (hk : qk x t < 202) {k : Int32} (hk2 : ck (qk x t) = k) {A : Zs → Option (Unit × Zs)} {B : Zs → Option (Except (Int32 × Int32) Unit × Zs)} {Q : Unit → Zs → Unit → Zs → Prop} (g : dp + 1 ≤ 8 → ∀ σ ρ, XP x E (t + 1) (e + 1) (dp + 1) l σ ρ → SM (Er x (eB E)) (A σ) (B ρ) Q) : SM (Er x (eB E)) (bq (fX4_takeInExpression k (nI dp + 1) σ) fun v z => if v = 0 then some ((), z) else A z) (bw (fX14_deeper ρ) fun _ ρ1 => bw (fX14_take ρ1) fun _ ρ2 => B ρ2) Q := by
  by_cases q : dp = 8
  · obtain ⟨z, a1, a2⟩ := x_tk0 hc h (k := k) (y := nI dp + 1) (Or.inr (Or.inr (dp_9 q)))
    rw [bq_e a1, if00]
    exact sm_xw (x_deepw hc h q) a2
  · have hd2 : dp + 1 ≤ 8 := by omega
    have h' := h.dd (dp + 1)
    refine sm_rw (x_deep h (by omega)) ?_
    by_cases q2 : e < 60
    · obtain ⟨σ', a1, a2⟩ := x_tk1 hc h' hk hk2 q2 (dp_8 hd2)
      rw [bq_e a1, if10]
      exact sm_rw (x_lt h' q2) (g hd2 _ _ a2)
    · have e60 : e = 60 := by have := h.2.2.2.2.1; omega
      obtain ⟨z, a1, a2⟩ := x_tk0 hc h' (k := k) (y := nI dp + 1) (Or.inr (Or.inl e60))
      rw [bq_e a1, if00]
      exact sm_xw (x_lw hc h' e60) a2
theorem must_0 (m : qM x = 0) (hc : Cok x) (h2 : LFr x ρ) {a b c : Int32} : fX14_must a b c ρ = some (.ok (), ρ) := by
  unfold fX14_must
  rw [hc.m h2, m, if_pos (by rfl)]
theorem must_1 {a b : Int32} : fX14_must 1 a b ρ = some (.ok (), ρ) := by
  unfold fX14_must
  split
  · rfl
  · rw [if_neg (by decide)]
theorem must_e (m : qM x = 1) (hc : Cok x) (h2 : LFr x ρ) {b c : Int32} : fX14_must 0 b c ρ = some (.error (b, c), ρ) := by
  unfold fX14_must
  rw [hc.m h2, m, if_neg (by decide), if_pos rfl]
/-- an error of meaning -/
theorem rep_E (m : qM x = 1) (h1 : St (qS x) (eB E) (qC x) σ) (h2 : LFr x ρ) (k : zI σ 192 0 0 0 = 0) {a b : Int32} (ha : a ≠ 0) (ha1 : a ≠ 1) : ∃ z, fX3_report a b σ = some ((), z) ∧ Er x (eB E) (a, b) z ρ := by
  refine ⟨sI (sI σ 192 0 0 0 a) 193 0 0 0 b, ?_, h1.rep k ha, h2, Or.inr ⟨m, ha1, rfl, rfl, ha⟩⟩
  unfold fX3_report
  rw [if_pos k, lt_k, lt_k]
def fnK (w : Nat) : Prop := w = 31 ∨ w = 24 ∨ w = 25
def fnA (w : Nat) : Nat := if w = 31 then 1 else 2
def fnC (w : Nat) : Int32 := if w = 31 then 42 else if w = 24 then 32 else 33
theorem x_endF (hc : Cok x) (h : XP x E t e dp l σ ρ) (hcap : qM x = 1 → eL E + l.length < 1500 ∧ eZ E + l.length < 3000) {w a p : Nat} (hw : fnK w) (ha : a < 1000) {lE : Zs → Option (Except (Int32 × Int32) Unit × Zs)} :
    SM (Er x (eB E)) (bq (fX3_endFunction (ck w) (nI a) (nI p) σ) fun _ z => some ((), z)) (if (nI w : Int32) = 31 then (if (nI a : Int32) = 1 then (fX14_function_143 lE (nI w) (nI p) 1 ρ) else (fX14_function_143 lE (nI w) (nI p) 0 ρ)) else (if (nI a : Int32) = 2 then (fX14_function_143 lE (nI w) (nI p) 1 ρ) else (fX14_function_143 lE (nI w) (nI p) 0 ρ)))
      (fun _ σ' _ ρ' => (qM x = 1 → a = fnA w) ∧ XP x E t e dp (l ++ [(ck w, 0)]) σ' ρ') := by
  have hA : ∀ {α : Type} (A B : α), (if (nI w : Int32) = 31 then (if (nI a : Int32) = 1 then A else B) else (if (nI a : Int32) = 2 then A else B)) = if a = fnA w then A else B := by
    intro α A B
    have e1 : (nI w : Int32) = 31 ↔ w = 31 := n_eq (a := w) (b := 31) (by rcases hw with rfl | rfl | rfl <;> omega) (by omega)
    have e2 : (nI a : Int32) = 1 ↔ a = 1 := n_eq (a := a) (b := 1) (by omega) (by omega)
    have e3 : (nI a : Int32) = 2 ↔ a = 2 := n_eq (a := a) (b := 2) (by omega) (by omega)
    unfold fnA
    by_cases q : w = 31
    · rw [if_pos (e1.mpr q), if_pos q]
      by_cases q2 : a = 1
      · rw [if_pos (e2.mpr q2), if_pos q2]
      · rw [if_neg (fun z => q2 (e2.mp z)), if_neg q2]
    · rw [if_neg (fun z => q (e1.mp z)), if_neg q]
      by_cases q2 : a = 2
      · rw [if_pos (e3.mpr q2), if_pos q2]
      · rw [if_neg (fun z => q2 (e3.mp z)), if_neg q2]
  have hop : fnC w = opc (ck w) := by rcases hw with rfl | rfl | rfl <;> decide
  have hem : ∀ ρ, (if (nI w : Int32) = 31 then (bq (fX14_emit 42 0 ρ) fun v42 ρ43 => some ((.ok (), ρ43) : Except (Int32 × Int32) Unit × Zs)) else (if (nI w : Int32) = 24 then (bq (fX14_emit 32 0 ρ) fun v38 ρ39 => some (.ok (), ρ39)) else (bq (fX14_emit 33 0 ρ) fun v34 ρ35 => some (.ok (), ρ35)))) = bq (fX14_emit (fnC w) 0 ρ) fun _ z => some (.ok (), z) := fun ρ => by
    rcases hw with rfl | rfl | rfl
    · rw [if_pos (by decide)]; rfl
    · rw [if_neg (by decide), if_pos (by decide)]; rfl
    · rw [if_neg (by decide), if_neg (by decide)]; rfl
  rw [hA]
  obtain ⟨h1, h2, h3, h4, h5, h6, h7, h8⟩ := id h
  rcases m01 hc with m | m
  · obtain ⟨⟨⟩, σ', e1, k1, k2⟩ := wp_ex (wp_an (k_endFunction (x := ck w) (y := nI a) (u := nI p) h1) (mf_X3_endFunction MF.rf))
    have e0 : fX14_emit (fnC w) 0 ρ = some ((), ρ) := by
      unfold fX14_emit
      rw [hc.m h2, m, if_pos (by rfl)]
    refine sm_l e1 ?_
    have hz : ∀ z0, fX14_function_143 lE (nI w) (nI p) z0 ρ = some (.ok (), ρ) := fun z0 => by
      unfold fX14_function_143
      rw [bw_e (must_0 m hc h2), hem, bq_e e0]
    rw [hz, hz, ite_self]
    exact sm_ok ⟨fun q => by omega, h.m0 m k1 k2 _⟩
  · obtain ⟨g1, _⟩ := h8.2 m
    have c1 : fX3_endFunction (ck w) (nI a) (nI p) σ = if a = fnA w then (bq (fX3_emit (ck w) 0 σ) fun _ z => some ((), z)) else (bq (fX3_report 3 (nI p) σ) fun _ z => some ((), z)) := by
      unfold fX3_endFunction fX3_endFunction_21 fX3_emit
      rw [if_pos g1, if_pos g1]
      have em : ∀ o : Option (Unit × Zs), bq (bq o fun v z => some ((), z)) (fun _ z => some ((), z)) = bq o fun v z => some ((), z) := fun o => by
        rcases o with _ | ⟨v, z⟩
        · rfl
        · rfl
      rw [em]
      unfold fnA
      have e2 : (nI a : Int32) = 1 ↔ a = 1 := n_eq (a := a) (b := 1) (by omega) (by omega)
      have e3 : (nI a : Int32) = 2 ↔ a = 2 := n_eq (a := a) (b := 2) (by omega) (by omega)
      by_cases q : w = 31
      · subst q
        rw [if_pos (show ck 31 = 159 from rfl), if_pos rfl]
        by_cases q2 : a = 1
        · rw [if_pos (e2.mpr q2), if_pos q2]
        · rw [if_neg (fun z => q2 (e2.mp z)), if_neg q2]
      · have q' : ¬ ck w = 159 := by rcases hw with rfl | rfl | rfl <;> first | exact absurd rfl q | decide
        rw [if_neg q', if_neg q]
        by_cases q2 : a = 2
        · rw [if_pos (e3.mpr q2), if_pos q2]
        · rw [if_neg (fun z => q2 (e3.mp z)), if_neg q2]
    rw [c1]
    by_cases q : a = fnA w
    · rw [if_pos q, if_pos q]
      obtain ⟨σ3, ρ3, u1, u2, u3⟩ := x_emit hc h hcap (c := ck w) (c2 := fnC w) (v := 0) (v2 := 0) ⟨hop, Or.inr (Or.inl rfl)⟩
      unfold fX14_function_143
      rw [bq_e u1, bq_s, bw_e must_1, hem, bq_e u2]
      exact sm_ok ⟨fun _ => q, u3⟩
    · rw [if_neg q, if_neg q]
      obtain ⟨z, r1, r2⟩ := rep_E (E := E) m h1 h2 g1 (a := 3) (b := nI p) (by decide) (by decide)
      rw [bq_e r1, bq_s]
      unfold fX14_function_143
      exact sm_xw (must_e m hc h2) r2
theorem hg_un {W h k : Nat} {c : Int32} {v : Int64} {l : List Op} (hc : c = 158 ∨ c = 160 ∨ c = 159) (h2 : hg W (h + 1) l k) : hg W (h + 1) ((c, v) :: l) k := Or.inr (Or.inl ⟨hc, by omega, h2⟩)
theorem x_funl (hc : Cok x) (hd : dp + 1 ≤ 8) {kE : Int32 → Zs → Option (Unit × Zs)} {lE : Zs → Option (Except (Int32 × Int32) Unit × Zs)} (hE : FS x E (dp + 1) (kE (nI dp + 1)) lE) (hKE : FK x E (kE (nI dp + 1))) {w p t0 e0 : Nat} (hw : fnK w) {l0 : List Op} (hb0 : bnd x E t0 l0) :
    ∀ (r t e : Nat) (la : List Op) (a n m : Nat) (σ ρ : Zs), r + e = 60 → 1 ≤ a → a + 2 ≤ e → 60 < n + (a - 1) → r < m → XP x E t e (dp + 1) (l0 ++ la) σ ρ → t + e0 = t0 + e → e0 + 2 ≤ e → (qM x = 1 → la.length + 2 ≤ e - e0 ∧ ∀ h, hg (eW E) h la (h + a)) →
    SM (Er x (eB E)) (fX4_function_38 (ck w) (nI dp) kE n (nI p) (nI a) (nI (a - 1)) σ) (bq (fX14_is 102 ρ) fun v ρ => if v = 0 then fX14_function_74 lE m (nI w) (nI p) (nI (a - 1) + 1) v ρ else bw (fX14_take ρ) fun _ ρ => fX14_function_74 lE m (nI w) (nI p) (nI (a - 1) + 1) v ρ) (XQ x E t0 e0 dp l0) := by
  have y8 : (nI dp : Int32) ≤ 8 := by rw [i_8, n_le (by omega) (by omega)]; omega
  intro r
  induction r using Nat.strongRecOn with
  | ind r ih =>
    intro t e la a n m σ ρ h1 h2 h3 h4 h5 h h6 h7 h8
    have he := h.2.2.2.2.1
    obtain ⟨n, rfl⟩ : ∃ j, n = j + 1 := ⟨n - 1, by omega⟩
    obtain ⟨m, rfl⟩ : ∃ j, m = j + 1 := ⟨m - 1, by omega⟩
    have hv := PSt.k204 hc h.2.2.1.1
    have hk := h.2.2.1.2.2.2.1
    have ea : (nI (a - 1) : Int32) + 1 = nI a := by rw [i_1, n_add, Nat.sub_add_cancel h2]
    have ea1 : (nI a : Int32) + 1 = nI (a + 1) := by rw [i_1, n_add]
    rw [fX4_function_38, i_60, if_neg (fun z => by have := (n_le (by omega) (by omega)).mp z; omega), hk, bq_e (show fX14_is 102 ρ = _ from h.is hc 102 (by decide)), ea, ea1]
    by_cases q : qk x t = 102
    · rw [if_pos (show ck (qk x t) = 44 by rw [q]; rfl), if_pos q, if10]
      refine sm_b (x_take hc h (by omega) (show ck (qk x t) = 44 by rw [q]; rfl) (dp_8 hd)) (fun _ σ _ ρ g => ?_) (fun _ _ _ _ g => g.go fun h => kb (hKE _ _ h) fun _ _ h => kl_fun hKE (60 - a) a n (by omega) (by omega) _ _ _ _ h)
      rw [fX14_function_74, if10]
      have hb2 : bnd x E (t + 1) (l0 ++ la) := fun m => by
        have := hb0 m; have := (h8 m).1
        rw [List.length_append]; omega
      refine sm_b (hE (t + 1) (e + 1) _ σ ρ g.2 hb2) (fun _ σ _ ρ g => ?_) (fun _ _ _ _ g => g.go fun h => kl_fun hKE (60 - a) a n (by omega) (by omega) _ _ _ _ h)
      obtain ⟨t2, e2, l2, g1, g2, g3, g4⟩ := g
      have he2 := g1.2.2.2.2.1
      rw [List.append_assoc] at g1
      have := ih (60 - e2) (by omega) t2 e2 (la ++ l2) (a + 1) n m σ ρ (by omega) (by omega) (by omega) (by omega) (by omega) g1 (by omega) (by omega) (fun m => ⟨by have := (h8 m).1; have := (g4 m).1; rw [List.length_append]; omega, fun h => hg_app _ _ (h + a) ((h8 m).2 h) ((g4 m).2 (h + a))⟩)
      rw [Nat.add_sub_cancel] at this
      exact this
    · rw [if_neg (show ¬ ck (qk x t) = 44 from ck_ne (j := 102) hv.1 rfl q), if_neg q, if00, fX14_function_74, if00]
      refine sm_b (x_take_ hc h (K := 101) rfl (by decide) (show ck 101 = 41 from rfl) y8) (fun _ σ _ ρ g => ?_) (fun _ _ _ _ g => g.go fun h => kb (k_endFunction h) fun _ _ h => h)
      obtain ⟨_, g⟩ := g
      have ed : (nI (dp + 1) : Int32) - 1 = nI dp := by rw [i_1, n_sub (by omega), Nat.add_sub_cancel]
      rw [lt_k, g.2.2.2.2.2.2.1, ed]
      have g' := g.dd dp
      have hcap : qM x = 1 → eL E + (l0 ++ la).length < 1500 ∧ eZ E + (l0 ++ la).length < 3000 := fun m => by
        have := hb0 m; have := (h8 m).1; have := hc.n g.2.2.1.1
        rw [List.length_append]; omega
      refine sm_m (x_endF hc g' hcap hw (by omega)) ?_
      rintro _ σ3 _ ρ3 ⟨v1, v2⟩
      refine ⟨t + 1, e + 1, la ++ [(ck w, 0)], ?_, by omega, by omega, fun m => ⟨?_, fun h => ?_⟩⟩
      · rw [← List.append_assoc]; exact v2
      · have := (h8 m).1; rw [List.length_append, List.length_singleton]; omega
      · refine hg_app _ _ (h + a) ((h8 m).2 h) ?_
        rw [v1 m]
        rcases hw with rfl | rfl | rfl
        · exact hg_un (h := h) (Or.inr (Or.inr rfl)) rfl
        · exact hg_bin ⟨_, show opF opT (ck 24) = some 32 by decide⟩ rfl
        · exact hg_bin ⟨_, show opF opT (ck 25) = some 33 by decide⟩ rfl
theorem x_fun (hc : Cok x) (hd : dp ≤ 8) {kE : Int32 → Zs → Option (Unit × Zs)} {lE : Zs → Option (Except (Int32 × Int32) Unit × Zs)} (hE : dp + 1 ≤ 8 → FS x E (dp + 1) (kE (nI dp + 1)) lE) (hKE : dp + 1 ≤ 8 → FK x E (kE (nI dp + 1))) (hw : fnK (qk x t)) (h : XP x E t e dp l σ ρ) (hb : bnd x E t l) : SM (Er x (eB E)) (fX4_function (ck (qk x t)) (nI dp) kE σ) (fX14_function lE ρ) (XQ x E t e dp l) := by
  have y8 : (nI dp : Int32) ≤ 8 := by rw [i_8, n_le (by omega) (by omega)]; omega
  have hk2 : qk x t < 202 := by rcases hw with q | q | q <;> omega
  have T := hc.tk rfl h.1.2.2.1 h.2.1 h.2.2.1.1
  have ht := hc.n h.2.2.1.1
  have gg : gi (nI t) 1501 := (n_gi (by omega)).mpr (by omega)
  have h5 := h.2.2.1.2.2.2.2.2.2
  have h6 : zI ρ 1926 0 0 (Int32.toNatClampNeg (nI t)) = nI (qk x t) := by rw [n_cl (by omega)]; exact T.2.2.1
  have h7 : zI ρ 1927 0 0 (Int32.toNatClampNeg (nI t)) = nI (qp x t) := by rw [n_cl (by omega)]; exact T.2.2.2.1
  have hl : fX14_function lE ρ = fX14_function_43 lE (nI (qk x t)) (nI (qp x t)) ρ := by
    unfold fX14_function
    rw [h5, if_pos gg, if_pos gg, h6, h7]
    rcases hw with q | q | q
    · rw [q, if_pos (by decide)]
    · rw [q, if_neg (by decide), if_pos (by decide)]
    · rw [q, if_neg (by decide), if_neg (by decide), if_pos (by decide)]
  rw [hl]
  unfold fX4_function fX14_function_43
  rw [h.2.2.1.2.2.2.2.1]
  have kk : ∀ σ0 z, St (qS x) (eB E) σ0 z → Wp1 (bq (fX4_takeInExpression 40 (nI dp + 1) z) fun v5 σ6 => if v5 = 0 then (some ((), σ6)) else (bq (kE (nI dp + 1) σ6) fun v9 σ10 => fX4_function_38 (ck (qk x t)) (nI dp) kE FU (nI (qp x t)) 1 0 σ10)) fun _ => St (qS x) (eB E) σ0 := fun σ0 z h => by
    refine wp_q (wp_m (k_takeIn h) fun v z' q => ?_)
    by_cases qv : v = 0
    · rw [if_pos qv]; exact q.1
    · rw [if_neg qv]
      have q8 := q.2 qv
      have hd1 : dp + 1 ≤ 8 := by rw [i_1, n_add, i_8, n_le (by omega) (by omega)] at q8; exact q8
      exact kb (hKE hd1 _ _ q.1) fun _ z h => kl_fun (hKE hd1) 60 0 FU (by omega) (by unfold FU; omega) _ _ _ _ h
  refine sm_b (x_take hc h hk2 rfl y8) (fun _ σ _ ρ g => ?_) (fun _ _ _ _ g => g.go fun h => kk _ _ h)
  obtain ⟨_, g⟩ := g
  rw [bq_e (show fX14_is 100 ρ = _ from g.is hc 100 (by decide))]
  by_cases q : qk x (t + 1) = 100
  · rw [if_pos q, if10]
    refine x_deepT hc g hd (by omega) (show ck (qk x (t + 1)) = 40 by rw [q]; rfl) (fun hd1 σ ρ g => ?_)
    rw [show FU = 19999 + 1 from rfl, fX14_function_74, if10]
    have hb2 : bnd x E (t + 1 + 1) l := fun m => by have := hb m; omega
    refine sm_b (hE hd1 _ _ _ σ ρ g hb2) (fun _ σ _ ρ g => ?_) (fun _ _ _ _ g => g.go fun h => kl_fun (hKE hd1) 60 0 (19999 + 1) (by omega) (by omega) _ _ _ _ h)
    obtain ⟨t2, e2, l2, g1, g2, g3, g4⟩ := g
    have he2 := g1.2.2.2.2.1
    exact x_funl hc hd1 (hE hd1) (hKE hd1) hw hb (60 - e2) t2 e2 l2 1 (19999 + 1) 19999 σ ρ (by omega) (by omega) (by omega) (by omega) (by omega) g1 (by omega) (by omega) (fun m => ⟨by have := (g4 m).1; omega, (g4 m).2⟩)
  · rw [if_neg q, if00, bq_e (g.2.2.1.wr hc g.1.2.2.1 g.2.1)]
    have hv := PSt.k204 hc g.2.2.1.1
    obtain ⟨z, a1, a2⟩ := x_tk0 hc g (k := 40) (y := nI dp + 1) (Or.inl (ck_ne (j := 100) hv.1 rfl q))
    rw [bq_e a1, if00]
    exact sm_x a2
end XF
