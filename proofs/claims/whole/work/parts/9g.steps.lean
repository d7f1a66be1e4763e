/-! ITEMS, both: steps -/
section SG
variable {x : Cx} {b t : Nat} {σ ρ : Zs} {d : Pd}
def AV (t : Nat) (σ ρ σ' ρ' : Zs) : Prop := (∃ k p w, σ' = avC σ t k p w) ∧ ρ' = sI ρ 905 0 0 0 (nI (t + 1))
theorem IP.is (h : IP x b t σ ρ) (hc : Cok x) (k : Nat) (hk : k < 2147483648) : fX14_is (nI k) ρ = some (if qk x t = k then 1 else 0, ρ) := by
  rcases h.2.2.1.is hc h.1.2.2.1 h.2.1 k with q | q
  · exact q
  · omega
theorem IP.tk (h : IP x b t σ ρ) (hc : Cok x) : TKj x σ ρ t := hc.tk rfl h.1.2.2.1 h.2.1 h.2.2.1.1
theorem IP.t5 (h : IP x b t σ ρ) (hc : Cok x) : t ≤ 1500 := hc.n h.2.2.1.1
theorem IP.g5 (h : IP x b t σ ρ) (hc : Cok x) : gi (zI ρ 905 0 0 0) 1501 := by
  rw [h.2.2.1.2.2.2.2.2.2]
  have := h.t5 hc
  exact (n_gi (by omega)).mpr (by omega)
theorem IP.k9 (h : IP x b t σ ρ) (hc : Cok x) : zI ρ 1926 0 0 (Int32.toNatClampNeg (zI ρ 905 0 0 0)) = nI (qk x t) := by
  have := h.t5 hc
  rw [h.2.2.1.2.2.2.2.2.2, n_cl (by omega)]; exact (h.tk hc).2.2.1
theorem IP.p9 (h : IP x b t σ ρ) (hc : Cok x) : zI ρ 1927 0 0 (Int32.toNatClampNeg (zI ρ 905 0 0 0)) = nI (qp x t) := by
  have := h.t5 hc
  rw [h.2.2.1.2.2.2.2.2.2, n_cl (by omega)]; exact (h.tk hc).2.2.2.1
theorem IP.w9 (h : IP x b t σ ρ) (hc : Cok x) : zJ ρ 1928 0 0 (Int32.toNatClampNeg (zI ρ 905 0 0 0)) = qw x t := by
  have := h.t5 hc
  rw [h.2.2.1.2.2.2.2.2.2, n_cl (by omega)]; exact (h.tk hc).2.2.2.2.1
theorem IP.wr (h : IP x b t σ ρ) (hc : Cok x) : fX14_wrong ρ = some ((1, nI (qp x t)), ρ) := h.2.2.1.wr hc h.1.2.2.1 h.2.1
theorem IP.vk (h : IP x b t σ ρ) (hc : Cok x) : vk (qk x t) = true ∧ qk x t < 204 := PSt.k204 hc h.2.2.1.1
theorem IP.c0 (h : IP x b t σ ρ) : zI σ 260 0 0 0 = ck (qk x t) := h.2.2.1.2.2.2.1
theorem IP.c1 (h : IP x b t σ ρ) : zI σ 261 0 0 0 = nI (qp x t) := h.2.2.1.2.2.2.2.1
theorem IP.c2 (h : IP x b t σ ρ) (q : qk x t ≠ 203) : zJ σ 262 0 0 0 = qw x t := h.2.2.1.2.2.2.2.2.1 q
theorem IP.mf (h : IP x b t σ ρ) {σ' : Zs} (k : St (qS x) b (qC x) σ') (k2 : MF σ σ') : IP x b t σ' ρ := ⟨k, h.2.1, h.2.2.1.mf k2, h.2.2.2⟩
/-- the law writes cells that are not the parser's -/
theorem IP.lw (h : IP x b t σ ρ) {ρ' : Zs} (k : LFr x ρ') (e1 : zI ρ' 905 0 0 0 = zI ρ 905 0 0 0) (e2 : zI ρ' 908 0 0 0 = zI ρ 908 0 0 0) (e3 : zI ρ' 907 0 0 0 = zI ρ 907 0 0 0) : IP x b t σ ρ' :=
  ⟨h.1, k, ⟨h.2.2.1.1, h.2.2.1.2.1, h.2.2.1.2.2.1, h.2.2.1.2.2.2.1, h.2.2.1.2.2.2.2.1, h.2.2.1.2.2.2.2.2.1, e1.trans h.2.2.1.2.2.2.2.2.2⟩, e2.trans h.2.2.2.1, e3.trans h.2.2.2.2⟩
theorem s_tk (hc : Cok x) (h : IP x b t σ ρ) (hk : qk x t < 202) : ∃ σ', (∀ K, ck (qk x t) = K → fX4_take K σ = some ((), σ')) ∧ fX14_take ρ = some (.ok (), sI ρ 905 0 0 0 (nI (t + 1))) ∧ IP x b (t + 1) σ' (sI ρ 905 0 0 0 (nI (t + 1))) ∧ AV t σ ρ σ' (sI ρ 905 0 0 0 (nI (t + 1))) := by
  obtain ⟨h1, h2, h3, h4, h5⟩ := h
  obtain ⟨w, a1, a2, a3⟩ := h3.av hc h1 h2 hk
  refine ⟨_, fun K hK => ?_, ?_, ⟨a3, h2.I (wl0 rfl), a2, h4, h5⟩, ⟨_, _, _, rfl⟩, rfl⟩
  · unfold fX4_take
    rw [h3.2.2.2.1, if_pos hK, bq_e a1]
  · unfold fX14_take
    rw [h4, if_neg (by decide), if_pos (by decide), lt_k, h3.2.2.2.2.2.2, i_1, n_add]
theorem s_no (hc : Cok x) (h : IP x b t σ ρ) {K : Int32} (hq : ¬ ck (qk x t) = K) : ∃ z, fX4_take K σ = some ((), z) ∧ Er x b (1, nI (qp x t)) z ρ := by
  obtain ⟨⟨⟩, z, e1, e2⟩ := wp_ex (Er.fail h.2.2.1 hc h.1 h.2.1)
  refine ⟨z, ?_, e2⟩
  unfold fX4_take
  rw [h.c0, if_neg hq, bq_e e1]
theorem s_take (hc : Cok x) (h : IP x b t σ ρ) {K : Nat} (hK : vk K = true) (hK2 : K < 202) {k : Int32} (hk : ck K = k) : SM (Er x b) (fX4_take k σ) (fX14_take_ (nI K) ρ) fun _ σ' _ ρ' => qk x t = K ∧ IP x b (t + 1) σ' ρ' ∧ AV t σ ρ σ' ρ' := by
  unfold fX14_take_
  rw [bq_e (h.is hc K (by omega))]
  by_cases q : qk x t = K
  · obtain ⟨σ', a1, a2, a3, a4⟩ := s_tk hc h (by omega)
    rw [if_pos q, if10, bw_e a2, a1 k (by rw [q]; exact hk)]
    exact sm_ok ⟨q, a3, a4⟩
  · obtain ⟨z, a1, a2⟩ := s_no hc h (K := k) (fun z => q ((ck_e (h.vk hc).1 hK).mp (z.trans hk.symm)))
    rw [if_neg q, if00, bq_e (h.wr hc), a1]
    exact sm_x a2
/-- a name is taken, and what is meant by it has been looked at -/
theorem s_nm (hc : Cok x) (h : IP x b t σ ρ) (hq : qk x t = 200) {r : Int32} {σ1 : Zs} (hl : fX3_lookAtName r (qw x t) (nI (qp x t)) σ = some ((), σ1)) (hS : St (qS x) b (qC x) σ1) : ∃ σ', fX4_takeName r σ = some ((), σ') ∧ fX14_take ρ = some (.ok (), sI ρ 905 0 0 0 (nI (t + 1))) ∧ IP x b (t + 1) σ' (sI ρ 905 0 0 0 (nI (t + 1))) ∧ ∃ k p w, σ' = avC σ1 t k p w := by
  have h' := h.mf hS (mf_X3_lookAtName MF.rf _ _ hl)
  obtain ⟨σ', a1, a2, a3, a4, _⟩ := s_tk hc h' (by omega)
  refine ⟨σ', ?_, a2, a3, a4⟩
  unfold fX4_takeName
  rw [h.c0, if_pos (by rw [hq]; rfl), h.c1, h.c2 (by omega), bq_e hl, bq_e (a1 2 (by rw [hq]; rfl))]
theorem s_nmE (hc : Cok x) (h : IP x b t σ ρ) (hq : qk x t = 200) {r : Int32} {e : Int32 × Int32} {σ1 : Zs} (hl : fX3_lookAtName r (qw x t) (nI (qp x t)) σ = some ((), σ1)) (hE : Er x b e σ1 ρ) : Wp1 (fX4_takeName r σ) fun _ z => Er x b e z ρ := by
  unfold fX4_takeName
  rw [h.c0, if_pos (by rw [hq]; rfl), h.c1, h.c2 (by omega), bq_e hl]
  exact hE.go fun h => kb (k_take h) fun _ _ h => h
theorem s_nmN (hc : Cok x) (h : IP x b t σ ρ) (hq : ¬ qk x t = 200) {r : Int32} : ∃ z, fX4_takeName r σ = some ((), z) ∧ Er x b (1, nI (qp x t)) z ρ := by
  have hne : ¬ ck (qk x t) = 2 := ck_ne (j := 200) (h.vk hc).1 rfl hq
  obtain ⟨z, a1, a2⟩ := s_no hc h hne
  refine ⟨z, ?_, a2⟩
  unfold fX4_takeName
  rw [h.c0, if_neg hne, bq_e a1]
/-- class alone: what is meant by a name, when nothing is looked at -/
theorem s_look0 (h : IP x b t σ ρ) (hb : b ≤ 1) {r : Int32} (hr : r = 2 ∨ b = 0) : ∃ σ1, fX3_lookAtName r (qw x t) (nI (qp x t)) σ = some ((), σ1) ∧ St (qS x) b (qC x) σ1 := by
  obtain ⟨⟨⟩, σ1, e1, k1⟩ := wp_ex (k_lookAtName h.1 hb hr (w := qw x t) (y := nI (qp x t)))
  exact ⟨σ1, e1, k1⟩
-- names of columns
def adN (σ : Zs) (w : Nat) (a : Int64) : Zs := sI (sJ σ 1224 0 0 w a) 201 0 0 0 (nI (w + 1))
theorem ac_C {w : Nat} {a : Int64} (h : zI σ 201 0 0 0 = nI w) (hw : w < 1500) (hn : ∀ j, j < w → zJ σ 1224 0 0 j ≠ a) : fX3_addColumn a σ = some (1, adN σ w a) := by
  have e : fX3_addColumn_38 a σ = some (1, adN σ w a) := by
    unfold fX3_addColumn_38
    have e2 : zI (sJ σ 1224 0 0 w a) 201 0 0 0 = nI w := h
    rw [h, i_1500, if_neg (fun z => by have := (n_le (by omega) (by omega)).mp z; omega), if_pos ((n_gi (by omega)).mpr hw), lt_k, lt_k, n_cl (by omega), e2]
    unfold adN
    rw [show (nI w : Int32) + 1 = nI (w + 1) by rw [i_1, n_add]]
  have l : ∀ (k i n : Nat), i + k = w → k < n → fX3_addColumn_2 a n (nI i) σ = some (1, adN σ w a) := by
    intro k
    induction k with
    | zero =>
      intro i n h3 h4
      obtain ⟨n, rfl⟩ : ∃ j, n = j + 1 := ⟨n - 1, by omega⟩
      rw [fX3_addColumn_2, h, if_pos ((n_le (by omega) (by omega)).mpr (by omega))]
      exact e
    | succ k ih =>
      intro i n h3 h4
      obtain ⟨n, rfl⟩ : ∃ j, n = j + 1 := ⟨n - 1, by omega⟩
      rw [fX3_addColumn_2, h, if_neg (fun z => by have := (n_le (by omega) (by omega)).mp z; omega), i_1500, if_neg (fun z => by have := (n_le (by omega) (by omega)).mp z; omega), if_pos ((n_gi (by omega)).mpr (by omega)), n_cl (by omega), if_neg (fun z => hn i (by omega) (l_cmp0.mp z)), show (nI i : Int32) + 1 = nI (i + 1) by rw [i_1, n_add]]
      exact ih (i + 1) n (by omega) (by omega)
  exact l w 0 FU (by omega) (by unfold FU; omega)
theorem ac_E {w j0 : Nat} {a : Int64} (h : zI σ 201 0 0 0 = nI w) (hw : w ≤ 1500) (hj : j0 < w) (he : zJ σ 1224 0 0 j0 = a) : fX3_addColumn a σ = some (0, σ) := by
  have l : ∀ (k i n : Nat), i + k = j0 → w < n + i → fX3_addColumn_2 a n (nI i) σ = some (0, σ) := by
    intro k
    induction k with
    | zero =>
      intro i n h3 h4
      obtain ⟨n, rfl⟩ : ∃ j, n = j + 1 := ⟨n - 1, by omega⟩
      have ei : i = j0 := by omega
      subst ei
      rw [fX3_addColumn_2, h, if_neg (fun z => by have := (n_le (by omega) (by omega)).mp z; omega), i_1500, if_neg (fun z => by have := (n_le (by omega) (by omega)).mp z; omega), if_pos ((n_gi (by omega)).mpr (by omega)), n_cl (by omega), if_pos (l_cmp0.mpr he)]
    | succ k ih =>
      intro i n h3 h4
      obtain ⟨n, rfl⟩ : ∃ j, n = j + 1 := ⟨n - 1, by omega⟩
      rw [fX3_addColumn_2, h, if_neg (fun z => by have := (n_le (by omega) (by omega)).mp z; omega), i_1500, if_neg (fun z => by have := (n_le (by omega) (by omega)).mp z; omega), if_pos ((n_gi (by omega)).mpr (by omega)), n_cl (by omega), show (nI i : Int32) + 1 = nI (i + 1) by rw [i_1, n_add]]
      by_cases q : zJ σ 1224 0 0 i = a
      · rw [if_pos (l_cmp0.mpr q)]
      · rw [if_neg (fun z => q (l_cmp0.mp z))]
        exact ih (i + 1) n (by omega) (by omega)
  exact l j0 0 FU (by omega) (by unfold FU; omega)
theorem nc_C {w : Nat} {a : Int64} {y : Int32} (h : zI σ 201 0 0 0 = nI w) (hw : w < 1500) (hn : ∀ j, j < w → zJ σ 1224 0 0 j ≠ a) : fX3_nameColumn a y σ = some ((), adN σ w a) := by
  unfold fX3_nameColumn
  rw [bq_e (ac_C h hw hn), if10]
theorem nc_E {w j0 : Nat} {a : Int64} {y : Int32} (h : zI σ 201 0 0 0 = nI w) (hw : w ≤ 1500) (hj : j0 < w) (he : zJ σ 1224 0 0 j0 = a) : fX3_nameColumn a y σ = bq (fX3_report 5 y σ) fun _ z => some ((), z) := by
  unfold fX3_nameColumn
  rw [bq_e (ac_E h hw hj he), if00]
/-- the names so far -/
def NLw (w : Nat) (σ ρ : Zs) : Prop := zI σ 201 0 0 0 = nI w ∧ zI ρ 911 0 0 0 = nI w ∧ w < 1500 ∧ (∀ j, j < w → zJ σ 1224 0 0 j = zJ ρ 1936 0 0 j) ∧ ∀ i j, i < w → j < w → zJ σ 1224 0 0 i = zJ σ 1224 0 0 j → i = j
theorem s_newcol (hc : Cok x) (h : IP x 0 t σ ρ) {w : Nat} (h0 : qM x = 0 → zI ρ 911 0 0 0 = nI 0) (hm : qM x = 1 → zI σ 192 0 0 0 = 0 ∧ NLw w σ ρ) : SM (Er x 0) (fX4_takeName 1 σ) (fX14_newColumn ρ) (fun _ σ' a ρ' => qk x t = 200 ∧ a = qw x t ∧ ρ' = sI ρ 905 0 0 0 (nI (t + 1)) ∧ IP x 0 (t + 1) σ' ρ' ∧ (qM x = 1 → (∀ j, j < w → zJ σ 1224 0 0 j ≠ qw x t) ∧ ∃ k p v, σ' = avC (adN σ w (qw x t)) t k p v)) := by
  unfold fX14_newColumn
  rw [bq_e (show fX14_is 200 ρ = _ from h.is hc 200 (by decide))]
  by_cases q : qk x t = 200
  · rw [if_pos q, if10, if_pos (h.g5 hc), h.w9 hc]
    have fin : ∀ σ1, fX3_lookAtName 1 (qw x t) (nI (qp x t)) σ = some ((), σ1) → St (qS x) 0 (qC x) σ1 → (qM x = 1 → (∀ j, j < w → zJ σ 1224 0 0 j ≠ qw x t) ∧ σ1 = adN σ w (qw x t)) → ∀ v : Int32, (v = -1 ∨ qM x = 0) → SM (Er x 0) (fX4_takeName 1 σ) (if v = -1 then (if gi (zI ρ 905 0 0 0) 1501 then bw (fX14_must 1 5 (nI (qp x t)) ρ) fun w26 ρ23 => bw (fX14_take ρ23) fun w31 ρ28 => some (.ok (qw x t), ρ28) else none) else (if gi (zI ρ 905 0 0 0) 1501 then bw (fX14_must 0 5 (nI (qp x t)) ρ) fun w15 ρ12 => bw (fX14_take ρ12) fun w20 ρ17 => some (.ok (qw x t), ρ17) else none)) (fun _ σ' a ρ' => qk x t = 200 ∧ a = qw x t ∧ ρ' = sI ρ 905 0 0 0 (nI (t + 1)) ∧ IP x 0 (t + 1) σ' ρ' ∧ (qM x = 1 → (∀ j, j < w → zJ σ 1224 0 0 j ≠ qw x t) ∧ ∃ k p v, σ' = avC (adN σ w (qw x t)) t k p v)) := by
      intro σ1 e1 e2 e3 v hv
      obtain ⟨σ', a1, a2, a3, k, p, u, a4⟩ := s_nm hc h q e1 e2
      have ok : SM (Er x 0) (fX4_takeName 1 σ) (bw (fX14_take ρ) fun w31 ρ28 => some ((.ok (qw x t), ρ28) : Except (Int32 × Int32) Int64 × Zs)) (fun _ σ' a ρ' => qk x t = 200 ∧ a = qw x t ∧ ρ' = sI ρ 905 0 0 0 (nI (t + 1)) ∧ IP x 0 (t + 1) σ' ρ' ∧ (qM x = 1 → (∀ j, j < w → zJ σ 1224 0 0 j ≠ qw x t) ∧ ∃ k p v, σ' = avC (adN σ w (qw x t)) t k p v)) := by
        rw [a1, bw_e a2]
        exact sm_ok ⟨q, rfl, rfl, a3, fun m => ⟨(e3 m).1, k, p, u, by rw [a4, (e3 m).2]⟩⟩
      rw [if_pos (h.g5 hc), if_pos (h.g5 hc)]
      rcases hv with rfl | m
      · rw [if_pos rfl, bw_e must_1]; exact ok
      · by_cases qv : v = -1
        · rw [if_pos qv, bw_e must_1]; exact ok
        · rw [if_neg qv, bw_e (must_0 m hc h.2.1)]; exact ok
    rcases m01 hc with m | m
    · obtain ⟨σ1, e1, e2⟩ := s_look0 h (by omega) (r := 1) (Or.inr rfl)
      have hix := name_R (c := 1936) (p := 0) (s := 0) (n0 := 1500) (off := 0) (N := 0) (w := qw x t) (ρ := ρ) (by omega) (by decide) (by omega)
      rw [h0 m, bq_e (show fX14_indexOf 1936 0 0 1500 0 (nI 0) (qw x t) ρ = _ from hix), h.p9 hc]
      exact fin σ1 e1 e2 (fun q => by omega) _ (Or.inr m)
    · obtain ⟨g1, g2, g3, g4, g5, g6⟩ := hm m
      have hix := name_R (c := 1936) (p := 0) (s := 0) (n0 := 1500) (off := 0) (N := w) (w := qw x t) (ρ := ρ) (by omega) (by decide) (by omega)
      rw [nix_c (g := fun j => zJ σ 1224 0 0 j) _ _ (fun j _ hj => by rw [Nat.zero_add]; exact (g5 j (by omega)).symm)] at hix
      rw [g3, bq_e (show fX14_indexOf 1936 0 0 1500 0 (nI w) (qw x t) ρ = _ from hix), h.p9 hc]
      have hl : fX3_lookAtName 1 (qw x t) (nI (qp x t)) σ = bq (fX3_nameColumn (qw x t) (nI (qp x t)) σ) fun _ z => some ((), z) := by
        unfold fX3_lookAtName
        rw [if_pos g1, if_neg (by decide), if_pos rfl]
      rcases nix_s (f := fun j => zJ σ 1224 0 0 j) (w := qw x t) w 0 with ⟨e, e2⟩ | ⟨j, _, hj, ej, e, _⟩
      · have hn : ∀ j, j < w → zJ σ 1224 0 0 j ≠ qw x t := fun j hj => e2 j (Nat.zero_le _) (by omega)
        have hl2 : fX3_lookAtName 1 (qw x t) (nI (qp x t)) σ = some ((), adN σ w (qw x t)) := by rw [hl, bq_e (nc_C g2 g4 hn)]
        have hS : St (qS x) 0 (qC x) (adN σ w (qw x t)) := (h.1.J (w0 rfl)).w201 (by omega)
        rw [e]
        exact fin _ hl2 hS (fun _ => ⟨hn, rfl⟩) _ (Or.inl rfl)
      · obtain ⟨z, r1, r2⟩ := rep_E (E := (0, 0, 0, 0, 0, σ, σ)) m h.1 h.2.1 g1 (a := 5) (b := nI (qp x t)) (by decide) (by decide)
        have hl2 : fX3_lookAtName 1 (qw x t) (nI (qp x t)) σ = some ((), z) := by rw [hl, nc_E g2 (by omega) (show j < w by omega) ej, bq_e r1, bq_s]
        rw [e, if_neg (n_mx (a := j) (by omega)), if_pos (h.g5 hc)]
        exact sm_xw (must_e m hc h.2.1) (s_nmE hc h q hl2 r2)
  · obtain ⟨z, a1, a2⟩ := s_nmN hc h q (r := 1)
    rw [if_neg q, if00, bq_e (h.wr hc), a1]
    exact sm_x a2
end SG
