/-! LIFTED: readAll -/
noncomputable def fX14_readAll_19   : Nat → Zs → Option (Except (Int32 × Int32) (Unit) × Zs)
  | 0, _ => none
  | n + 1, ρ =>
    bq (fX14_is 202 ρ) fun v12 ρ13 => if v12 = 0 then (bw (fX14_item  ρ13) fun w20 ρ17 => fX14_readAll_19   n  ρ17) else (some (.ok (), ρ13))
noncomputable def fX14_readAll  (ρ : Zs) : Option (Except (Int32 × Int32) (Unit) × Zs) :=
  lt (sI ρ 905 0 0 0 0) fun ρ1 => lt (sI ρ1 907 0 0 0 0) fun ρ3 => lt (sI ρ3 908 0 0 0 (-1)) fun ρ5 => bw (fX14_item  ρ5) fun w11 ρ8 => fX14_readAll_19   FU  ρ8

noncomputable def cIt : Nat → Zs → Nat
  | 0, _ => 0
  | n + 1, ρ => match fX14_is 202 ρ with
    | some (v, ρ1) => if v = 0 then (match fX14_item ρ1 with
      | some (.ok _, ρ2) => 1 + cIt n ρ2
      | _ => 1) else 0
    | none => 0
theorem cIt_ok {n : Nat} {ρ ρ1 ρ2 : Zs} {v : Int32} {w : Unit} (e1 : fX14_is 202 ρ = some (v, ρ1)) (q : v = 0) (e2 : fX14_item ρ1 = some (.ok w, ρ2)) : cIt (n + 1) ρ = 1 + cIt n ρ2 := by
  rw [cIt, e1]
  simp only [if_pos q, e2]
theorem cIt_er {n : Nat} {ρ ρ1 ρ2 : Zs} {v : Int32} {w : Int32 × Int32} (e1 : fX14_is 202 ρ = some (v, ρ1)) (q : v = 0) (e2 : fX14_item ρ1 = some (.error w, ρ2)) : cIt (n + 1) ρ = 1 := by
  rw [cIt, e1]
  simp only [if_pos q, e2]
noncomputable def cR (ρ : Zs) : Nat := match fX14_item (sI (sI (sI ρ 905 0 0 0 0) 907 0 0 0 0) 908 0 0 0 (-1)) with
  | some (.ok _, ρ8) => 1 + cIt FU ρ8
  | _ => 1
set_option maxRecDepth 20000 in
set_option maxHeartbeats 4000000 in
theorem u_X14_readAll_19 {A : Nat → Nat → Nat → Nat} {σ ρ' : Zs} {v : Unit} {x : Cxt}   {mc ms : Nat} (hf : m_fin mc ms (QV A v σ ρ') X0 x) (hrm : m_rm 101 mc ms x)  : ∀ (n : Nat) (ρ : Zs) (h : Hp) (kc ks : Nat), kc + 3 * cIt n ρ ≤ mc → ks + 22 * cIt n ρ ≤ ms → Rp A h σ ρ → fX14_readAll_19   n  ρ = some (.ok v, ρ') → wp x mX14_readAll 19 [(0, .ref (A 14 0 0))] [] h kc ks
  | 0, ρ, h, _, _ => fun _ _ hz hr => by
    rw [fX14_readAll_19.eq_1] at hr
    exact nono hr
  | n + 1, ρ, h, kc, ks => fun hkc hks hz hr => by
    rw [fX14_readAll_19.eq_2] at hr
    refine w_aload_n 0 dX14_readAll_19 rfl rfl rfl ?_
    refine w_sipush 202 dX14_readAll_20 rfl rfl ?_
    obtain ⟨v12, ρ13, e14, hr⟩ := bq_some hr
    refine c_X14_223 (As := [.int 202]) (rest := []) (fun l => s_X14_is  hz e14 l) hrm dX14_readAll_23 rfl rfl (Nat.le_of_ble_eq_true rfl) (by omega) (by omega) (hz.o14 rfl) rfl (Nat.le_of_ble_eq_true rfl) (fun vr h2 hq => ?_) (fun E9 h9 hq => hq.elim)
    obtain ⟨rfl, hz⟩ := hq
    show wp _ _ 26 [(0, .ref (A 14 0 0))] [.int v12] _ _ _
    refine w_if_ne 36 dX14_readAll_26 rfl rfl (fun q26 => ?_) (fun q26 => ?_)
    · have hr := bf q26 hr
      refine w_vret hf dX14_readAll_36 rfl (by omega) (by omega) ?_
      obtain ⟨rfl, rfl⟩ := retw hr
      exact ⟨rfl, hz⟩
    · have hr := bt q26 hr
      refine w_aload_n 0 dX14_readAll_29 rfl rfl rfl ?_
      obtain ⟨v16, ρ17, e18, hr⟩ := bw_some hr
      rcases v16 with w20e | w20
      · exact noko (bw_er hr)
      have hr := bw_ok hr
      have hc := cIt_ok (n := n) e14 q26 e18
      rw [hc] at hkc hks
      refine c_X14_411 (As := []) (rest := []) (fun l => t_X14_item  hz e18 l) hrm dX14_readAll_30 rfl rfl (Nat.le_of_ble_eq_true rfl) (by omega) (by omega) (hz.o14 rfl) rfl (Nat.le_of_ble_eq_true rfl) (fun vr h2 hq => ?_) (fun E9 h9 hq => hq.elim)
      obtain ⟨rfl, hz⟩ := hq
      show wp _ _ 33 [(0, .ref (A 14 0 0))] [] _ _ _
      refine w_goto 19 dX14_readAll_33 rfl ?_
      refine w_lv [(0, .ref (A 14 0 0))] [0] rfl ?_
      exact u_X14_readAll_19 hf hrm   n  _ _ _ _ (by omega) (by omega) hz  hr
set_option maxRecDepth 20000 in
set_option maxHeartbeats 4000000 in
theorem t_X14_readAll {A : Nat → Nat → Nat → Nat} {h : Hp} {σ ρ ρ' : Zs} {v : Unit}   (hz : Rp A h σ ρ) (hr : fX14_readAll  ρ = some (.ok v, ρ')) : ∀ l : Launch, Sp l mX14_readAll 101 (3 * cR ρ) (22 * cR ρ) [.ref (A 14 0 0)] h (QV A v σ ρ') X0 := by
  intro l
  refine Sp.of rfl rfl (lv := [(0, .ref (A 14 0 0))]) (Nat.le_of_ble_eq_true rfl) rfl (fun x hf hrm => ?_)
  rw [fX14_readAll.eq_1] at hr
  refine w_aload_n 0 dX14_readAll_0 rfl rfl rfl ?_
  refine w_iconst 0 dX14_readAll_1 rfl rfl ?_
  refine p_X14_204 dX14_readAll_2 rfl (hz.o14 rfl) ?_
  obtain ⟨ρ1, e2, hr⟩ := lt_e hr
  have hz := (hz.s905 (v := 0) rfl).tr e2
  refine w_aload_n 0 dX14_readAll_5 rfl rfl rfl ?_
  refine w_iconst 0 dX14_readAll_6 rfl rfl ?_
  refine p_X14_229 dX14_readAll_7 rfl (hz.o14 rfl) ?_
  obtain ⟨ρ3, e4, hr⟩ := lt_e hr
  have hz := (hz.s907 (v := 0) rfl).tr e4
  refine w_aload_n 0 dX14_readAll_10 rfl rfl rfl ?_
  refine w_iconst (-1) dX14_readAll_11 rfl rfl ?_
  refine p_X14_216 dX14_readAll_12 rfl (hz.o14 rfl) ?_
  obtain ⟨ρ5, e6, hr⟩ := lt_e hr
  have hz := (hz.s908 (v := (-1)) rfl).tr e6
  refine w_aload_n 0 dX14_readAll_15 rfl rfl rfl ?_
  obtain ⟨v7, ρ8, e9, hr⟩ := bw_some hr
  rcases v7 with w11e | w11
  · exact noko (bw_er hr)
  have hr := bw_ok hr
  have hc : cR ρ = 1 + cIt FU ρ8 := by rw [cR, ← e2, ← e4, ← e6, e9]
  refine c_X14_411 (As := []) (rest := []) (fun l => t_X14_item  hz e9 l) hrm dX14_readAll_16 rfl rfl (Nat.le_of_ble_eq_true rfl) (by omega) (by omega) (hz.o14 rfl) rfl (Nat.le_of_ble_eq_true rfl) (fun vr h2 hq => ?_) (fun E9 h9 hq => hq.elim)
  obtain ⟨rfl, hz⟩ := hq
  show wp _ _ 19 [(0, .ref (A 14 0 0))] [] _ _ _
  refine w_lv [(0, .ref (A 14 0 0))] [0] rfl ?_
  exact u_X14_readAll_19 hf hrm   FU  _ _ _ _ (by omega) (by omega) hz  hr

set_option maxRecDepth 20000 in
set_option maxHeartbeats 4000000 in
theorem x_X14_readAll_19 {A : Nat → Nat → Nat → Nat} {σ ρ' : Zs} {v : Int32 × Int32} {x : Cxt}   {mc ms : Nat} (hf : m_fin mc ms QF (XW A v σ ρ') x) (hrm : m_rm 101 mc ms x)  : ∀ (n : Nat) (ρ : Zs) (h : Hp) (kc ks : Nat), kc + 3 * cIt n ρ ≤ mc → ks + 22 * cIt n ρ ≤ ms → Rp A h σ ρ → fX14_readAll_19   n  ρ = some (.error v, ρ') → wp x mX14_readAll 19 [(0, .ref (A 14 0 0))] [] h kc ks
  | 0, ρ, h, _, _ => fun _ _ hz hr => by
    rw [fX14_readAll_19.eq_1] at hr
    exact nono hr
  | n + 1, ρ, h, kc, ks => fun hkc hks hz hr => by
    rw [fX14_readAll_19.eq_2] at hr
    refine w_aload_n 0 dX14_readAll_19 rfl rfl rfl ?_
    refine w_sipush 202 dX14_readAll_20 rfl rfl ?_
    obtain ⟨v12, ρ13, e14, hr⟩ := bq_some hr
    refine c_X14_223 (As := [.int 202]) (rest := []) (fun l => s_X14_is  hz e14 l) hrm dX14_readAll_23 rfl rfl (Nat.le_of_ble_eq_true rfl) (by omega) (by omega) (hz.o14 rfl) rfl (Nat.le_of_ble_eq_true rfl) (fun vr h2 hq => ?_) (fun E9 h9 hq => hq.elim)
    obtain ⟨rfl, hz⟩ := hq
    show wp _ _ 26 [(0, .ref (A 14 0 0))] [.int v12] _ _ _
    refine w_if_ne 36 dX14_readAll_26 rfl rfl (fun q26 => ?_) (fun q26 => ?_)
    · have hr := bf q26 hr
      exact noek hr
    · have hr := bt q26 hr
      refine w_aload_n 0 dX14_readAll_29 rfl rfl rfl ?_
      obtain ⟨v16, ρ17, e18, hr⟩ := bw_some hr
      rcases v16 with w20e | w20
      · obtain ⟨rfl, rfl⟩ := rete (bw_er hr)
        have hc := cIt_er (n := n) e14 q26 e18
        rw [hc] at hkc hks
        refine c_X14_411 (As := []) (rest := []) (fun l => e_X14_item  hz e18 l) hrm dX14_readAll_30 rfl rfl (Nat.le_of_ble_eq_true rfl) (by omega) (by omega) (hz.o14 rfl) rfl (Nat.le_of_ble_eq_true rfl) (fun vr h2 hq => hq.elim) (fun E9 h9 hq => ?_)
        exact w_out hf (by omega) (by omega) hq
      have hr := bw_ok hr
      have hc := cIt_ok (n := n) e14 q26 e18
      rw [hc] at hkc hks
      refine c_X14_411 (As := []) (rest := []) (fun l => t_X14_item  hz e18 l) hrm dX14_readAll_30 rfl rfl (Nat.le_of_ble_eq_true rfl) (by omega) (by omega) (hz.o14 rfl) rfl (Nat.le_of_ble_eq_true rfl) (fun vr h2 hq => ?_) (fun E9 h9 hq => hq.elim)
      obtain ⟨rfl, hz⟩ := hq
      show wp _ _ 33 [(0, .ref (A 14 0 0))] [] _ _ _
      refine w_goto 19 dX14_readAll_33 rfl ?_
      refine w_lv [(0, .ref (A 14 0 0))] [0] rfl ?_
      exact x_X14_readAll_19 hf hrm   n  _ _ _ _ (by omega) (by omega) hz  hr
set_option maxRecDepth 20000 in
set_option maxHeartbeats 4000000 in
theorem e_X14_readAll {A : Nat → Nat → Nat → Nat} {h : Hp} {σ ρ ρ' : Zs} {v : Int32 × Int32}   (hz : Rp A h σ ρ) (hr : fX14_readAll  ρ = some (.error v, ρ')) : ∀ l : Launch, Sp l mX14_readAll 101 (3 * cR ρ) (22 * cR ρ) [.ref (A 14 0 0)] h QF (XW A v σ ρ') := by
  intro l
  refine Sp.of rfl rfl (lv := [(0, .ref (A 14 0 0))]) (Nat.le_of_ble_eq_true rfl) rfl (fun x hf hrm => ?_)
  rw [fX14_readAll.eq_1] at hr
  refine w_aload_n 0 dX14_readAll_0 rfl rfl rfl ?_
  refine w_iconst 0 dX14_readAll_1 rfl rfl ?_
  refine p_X14_204 dX14_readAll_2 rfl (hz.o14 rfl) ?_
  obtain ⟨ρ1, e2, hr⟩ := lt_e hr
  have hz := (hz.s905 (v := 0) rfl).tr e2
  refine w_aload_n 0 dX14_readAll_5 rfl rfl rfl ?_
  refine w_iconst 0 dX14_readAll_6 rfl rfl ?_
  refine p_X14_229 dX14_readAll_7 rfl (hz.o14 rfl) ?_
  obtain ⟨ρ3, e4, hr⟩ := lt_e hr
  have hz := (hz.s907 (v := 0) rfl).tr e4
  refine w_aload_n 0 dX14_readAll_10 rfl rfl rfl ?_
  refine w_iconst (-1) dX14_readAll_11 rfl rfl ?_
  refine p_X14_216 dX14_readAll_12 rfl (hz.o14 rfl) ?_
  obtain ⟨ρ5, e6, hr⟩ := lt_e hr
  have hz := (hz.s908 (v := (-1)) rfl).tr e6
  refine w_aload_n 0 dX14_readAll_15 rfl rfl rfl ?_
  obtain ⟨v7, ρ8, e9, hr⟩ := bw_some hr
  rcases v7 with w11e | w11
  · obtain ⟨rfl, rfl⟩ := rete (bw_er hr)
    have hc : cR ρ = 1 := by rw [cR, ← e2, ← e4, ← e6, e9]
    refine c_X14_411 (As := []) (rest := []) (fun l => e_X14_item  hz e9 l) hrm dX14_readAll_16 rfl rfl (Nat.le_of_ble_eq_true rfl) (by omega) (by omega) (hz.o14 rfl) rfl (Nat.le_of_ble_eq_true rfl) (fun vr h2 hq => hq.elim) (fun E9 h9 hq => ?_)
    exact w_out hf (by omega) (by omega) hq
  have hr := bw_ok hr
  have hc : cR ρ = 1 + cIt FU ρ8 := by rw [cR, ← e2, ← e4, ← e6, e9]
  refine c_X14_411 (As := []) (rest := []) (fun l => t_X14_item  hz e9 l) hrm dX14_readAll_16 rfl rfl (Nat.le_of_ble_eq_true rfl) (by omega) (by omega) (hz.o14 rfl) rfl (Nat.le_of_ble_eq_true rfl) (fun vr h2 hq => ?_) (fun E9 h9 hq => hq.elim)
  obtain ⟨rfl, hz⟩ := hq
  show wp _ _ 19 [(0, .ref (A 14 0 0))] [] _ _ _
  refine w_lv [(0, .ref (A 14 0 0))] [0] rfl ?_
  exact x_X14_readAll_19 hf hrm   FU  _ _ _ _ (by omega) (by omega) hz  hr

