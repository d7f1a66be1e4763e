/-! THE LAW'S TEXT -/
theorem m_rm_le {d d' Mc Ms : Nat} {x : Cxt} (h : m_rm d' Mc Ms x) (hd : d ≤ d') : m_rm d Mc Ms x := by
  obtain ⟨p, l, e, R, s, m, args, below, meth, cd, Q, A, D, ca, aK, aV⟩ := x
  obtain ⟨r1, r2, r3, r4⟩ := h
  exact ⟨by omega, by omega, r3, r4⟩
theorem tN_x : tN 2 = txP1 ∧ tN 3 = txP2 ∧ tN 4 = txP3 ∧ tN 5 = txP4 := by decide +kernel
theorem tN_2l : (tN 2).length = 50 := by decide +kernel
theorem tN_3l : (tN 3).length = 32 := by decide +kernel
theorem tN_4l : (tN 4).length = 31 := by decide +kernel
theorem tN_5l : (tN 5).length = 75 := by decide +kernel
theorem capS_le {m q : Nat} (h : q ≤ m) : capS m q = m := if_pos h
theorem txL_e (lim n : Nat) : ((((((([] ++ tN 2) ++ dgT lim) ++ tN 3) ++ dgT lim) ++ tN 4) ++ dgT n) ++ tN 5) = txL lim n := by
  obtain ⟨e1, e2, e3, e4⟩ := tN_x
  rw [e1, e2, e3, e4]
  simp only [txL, List.append_assoc, List.nil_append]
theorem txP_b : (∀ b, b ∈ txP1 → b < 128) ∧ (∀ b, b ∈ txP2 → b < 128) ∧ (∀ b, b ∈ txP3 → b < 128) ∧ ∀ b, b ∈ txP4 → b < 128 := by decide +kernel
theorem dgT_b {v : Nat} (hv : v < 100) : ∀ b, b ∈ dgT v → b < 128 := by
  intro b hb
  unfold dgT at hb
  split at hb
  · rcases List.mem_cons.mp hb with rfl | q
    · omega
    · cases q
  · rcases List.mem_cons.mp hb with rfl | q
    · omega
    · rcases List.mem_cons.mp q with rfl | q
      · omega
      · cases q
theorem txL_b {lim n : Nat} (h1 : lim < 100) (h2 : n < 100) : ∀ b, b ∈ txL lim n → b < 128 := by
  intro b hb
  obtain ⟨p1, p2, p3, p4⟩ := txP_b
  unfold txL at hb
  rcases List.mem_append.mp hb with q | q
  · exact p1 b q
  rcases List.mem_append.mp q with q | q
  · exact dgT_b h1 b q
  rcases List.mem_append.mp q with q | q
  · exact p2 b q
  rcases List.mem_append.mp q with q | q
  · exact dgT_b h1 b q
  rcases List.mem_append.mp q with q | q
  · exact p3 b q
  rcases List.mem_append.mp q with q | q
  · exact dgT_b h2 b q
  exact p4 b q
theorem getD_b {L : List Nat} (h : ∀ b, b ∈ L → b < 128) {j : Nat} (hj : j < L.length) : L.getD j 0 < 128 := by
  rw [List.getD_eq_getElem?_getD, List.getElem?_eq_getElem hj]
  exact h _ (List.getElem_mem hj)
theorem txL_len {lim n : Nat} (h1 : lim < 10) : (txL lim n).length = 190 + (dgT n).length := by
  rw [← txL_e]
  simp only [List.length_append, List.length_nil, tN_2l, tN_3l, tN_4l, tN_5l, dg_L lim, if_pos h1]
  omega
section LTX
variable {x : Cxt} {pc pc' b kc ks lim n sb a m m2 i v ell w Mc Ms : Nat} {A : Nat → Nat → Nat → Nat} {h : Hp} {σ ρ : Zs} {T : List Nat} {rest : List Value} {lv : List (Nat × Value)}
theorem w_sbS (hi : i < 6) (hrm : m_rm 20 Mc Ms x) (hd : decode code pc = .ok (.invokevirtual 61, 3)) (hp : pc + 3 = pc') (hz : Rp A h σ ρ) (hS : SBd h sb a m T) (hfs : fgn A sb) (hfa : fgn A a) (hl : T.length = ell) (h1 : m ≤ 1000) (h2 : ell ≤ 200) (hc : capS m (ell + m_len.getD i 0) = m2) (h3 : m2 ≤ 1000) (hmc : kc + 1 ≤ Mc) (hms : ks + 1000 ≤ Ms) (hcat : (rest.map fun v => v.category).sum ≤ 8) (k : ∀ (a2 : Nat) (h2 : Hp) (ρ2 : Zs), Rp A h2 σ ρ2 → SBd h2 sb a2 m2 (T ++ tN i) → fgn A a2 → wp x mLaw pc' lv (.ref sb :: rest) h2 (kc + 1) (ks + 1000)) : wp x mLaw pc lv (.ref (xK x i) :: .ref sb :: rest) h kc ks := by
  subst hl
  subst hc
  refine w_callB (n := 1) (b := sb) (As := fun aK _ => [.ref (aK i)]) (rest := rest) (fun l => s_J4_appS hi hz hS hfs hfa h1 h2 h3 l) hrm hd hp ml_L_61 im_J4_append_15ec4 se_J4_append_15ec4 co_J4_append_15ec4 (by decide +kernel) (fun _ _ => rfl) (by decide) (by decide) hmc hms hS.1 rfl hcat (fun vr h9 hq => ?_) (fun _ _ hq => hq.elim)
  obtain ⟨rfl, a2, ρ2, q1, q2, q3⟩ := hq
  exact k a2 h9 ρ2 q1 q2 q3
theorem w_sbI (hv : v < 100) (hrm : m_rm 20 Mc Ms x) (hd : decode code pc = .ok (.invokevirtual 65, 3)) (hp : pc + 3 = pc') (hz : Rp A h σ ρ) (hS : SBd h sb a m T) (hfs : fgn A sb) (hfa : fgn A a) (hl : T.length = ell) (hw : (dgT v).length = w) (h1 : m ≤ 1000) (h2 : ell ≤ 200) (hc : capS m (ell + w) = m2) (h3 : m2 ≤ 1000) (hmc : kc + 1 ≤ Mc) (hms : ks + 1000 ≤ Ms) (hcat : (rest.map fun v => v.category).sum ≤ 8) (k : ∀ (a2 : Nat) (h2 : Hp) (ρ2 : Zs), Rp A h2 σ ρ2 → SBd h2 sb a2 m2 (T ++ dgT v) → fgn A a2 → wp x mLaw pc' lv (.ref sb :: rest) h2 (kc + 1) (ks + 1000)) : wp x mLaw pc lv (.int (nI v) :: .ref sb :: rest) h kc ks := by
  subst hl
  subst hw
  subst hc
  refine c_L_65 (b := sb) (As := [.int (nI v)]) (rest := rest) (fun l => s_J4_appI hv hz hS hfs hfa h1 h2 h3 l) hrm hd hp rfl (by decide) hmc hms hS.1 rfl hcat (fun vr h9 hq => ?_) (fun _ _ hq => hq.elim)
  obtain ⟨rfl, a2, ρ2, q1, q2, q3⟩ := hq
  exact k a2 h9 ρ2 q1 q2 q3
def lvT (d b lim n : Nat) : List (Nat × Value) := [(3, .int (nI lim)), (2, .int (nI n)), (1, .ref d), (0, .ref b)]
theorem lw_text (hrm : m_rm 20 Mc Ms x) (hz : Rp A h σ ρ) (hlim : lim < 9) (hn : 1 ≤ n) (hn2 : n ≤ 20) (hc : kc + 11 ≤ Mc) (hs : ks + 8030 ≤ Ms) (k : ∀ (q tb : Nat) (h2 : Hp) (ρ2 : Zs), Rp A h2 σ ρ2 → TxO h2 q tb (txL lim n).length (fun j => (txL lim n).getD j 0) → fgn A q → fgn A tb → wp x mLaw 77 (lvT (A 11 0 0) b lim n) [.ref q, .ref (A 11 0 0)] h2 (kc + 11) (ks + 8030)) : wp x mLaw 34 (lvT (A 11 0 0) b lim n) [] h kc ks := by
  have hd1 : (dgT lim).length = 1 := by rw [dg_L, if_pos (by omega)]
  have hd2 : (dgT n).length ≤ 2 := by rw [dg_L]; split <;> decide
  generalize hde : (dgT n).length = de at hd2
  refine w_aload_n 2 dL_law_34 rfl rfl rfl ?_
  refine nw_L_56 hrm dL_law_35 rfl (by omega) (by omega) (fun sb hsb => ?_)
  have hfs := hz.fg hsb
  refine w_dup dL_law_38 rfl rfl ?_
  refine c_L_58 (b := sb) (As := []) (rest := [.ref sb, .ref (A 11 0 0)]) (fun l => s_J4_init (hz.newO hsb) (va_up_self _ _ _) (if_pos rfl) hfs l) hrm dL_law_39 rfl rfl (by decide) (by omega) (by omega) rfl (Nat.le_of_ble_eq_true rfl) (fun vr h1 hq => ?_) (fun _ _ hq => hq.elim)
  obtain ⟨rfl, a1, ρ1, hz1, hS1, hf1⟩ := hq

  refine w_ldcS 2 dL_law_42 rfl (fun e => e.2.2.1) ?_
  refine w_sbS (ell := 0) (m2 := 50) (by decide) hrm dL_law_44 rfl hz1 hS1 hfs hf1 rfl (by decide) (by omega) (by decide) (by decide) (by omega) (by omega) (Nat.le_of_ble_eq_true rfl) (fun a2 h2 ρ2 hz2 hS2 hf2 => ?_)
  refine w_iload_n 0 dL_law_47 rfl rfl rfl ?_
  refine w_sbI (ell := 50) (w := 1) (m2 := 102) (by omega) hrm dL_law_48 rfl hz2 hS2 hfs hf2 (by simp only [List.length_append, List.length_nil, tN_2l, tN_3l, tN_4l, hd1, hde] <;> omega) hd1 (by decide) (by omega) (by decide) (by decide) (by omega) (by omega) (Nat.le_of_ble_eq_true rfl) (fun a3 h3 ρ3 hz3 hS3 hf3 => ?_)
  refine w_ldcS 3 dL_law_51 rfl (fun e => e.2.2.2.1) ?_
  refine w_sbS (ell := 51) (m2 := 102) (by decide) hrm dL_law_53 rfl hz3 hS3 hfs hf3 (by simp only [List.length_append, List.length_nil, tN_2l, tN_3l, tN_4l, hd1, hde] <;> omega) (by decide) (by omega) (by decide) (by decide) (by omega) (by omega) (Nat.le_of_ble_eq_true rfl) (fun a4 h4 ρ4 hz4 hS4 hf4 => ?_)
  refine w_iload_n 0 dL_law_56 rfl rfl rfl ?_
  refine w_sbI (ell := 83) (w := 1) (m2 := 102) (by omega) hrm dL_law_57 rfl hz4 hS4 hfs hf4 (by simp only [List.length_append, List.length_nil, tN_2l, tN_3l, tN_4l, hd1, hde] <;> omega) hd1 (by decide) (by omega) (by decide) (by decide) (by omega) (by omega) (Nat.le_of_ble_eq_true rfl) (fun a5 h5 ρ5 hz5 hS5 hf5 => ?_)
  refine w_ldcS 4 dL_law_60 rfl (fun e => e.2.2.2.2.1) ?_
  refine w_sbS (ell := 84) (m2 := 206) (by decide) hrm dL_law_62 rfl hz5 hS5 hfs hf5 (by simp only [List.length_append, List.length_nil, tN_2l, tN_3l, tN_4l, hd1, hde] <;> omega) (by decide) (by omega) (by decide) (by decide) (by omega) (by omega) (Nat.le_of_ble_eq_true rfl) (fun a6 h6 ρ6 hz6 hS6 hf6 => ?_)
  refine w_iload_n 1 dL_law_65 rfl rfl rfl ?_
  refine w_sbI (ell := 115) (w := de) (m2 := 206) (by omega) hrm dL_law_66 rfl hz6 hS6 hfs hf6 (by simp only [List.length_append, List.length_nil, tN_2l, tN_3l, tN_4l, hd1, hde] <;> omega) hde (by decide) (by omega) (capS_le (by omega)) (by decide) (by omega) (by omega) (Nat.le_of_ble_eq_true rfl) (fun a7 h7 ρ7 hz7 hS7 hf7 => ?_)
  refine w_ldcS 5 dL_law_69 rfl (fun e => e.2.2.2.2.2) ?_
  refine w_sbS (ell := 115 + de) (m2 := 206) (by decide) hrm dL_law_71 rfl hz7 hS7 hfs hf7 (by simp only [List.length_append, List.length_nil, tN_2l, tN_3l, tN_4l, hd1, hde] <;> omega) (by decide) (by omega) (capS_le (by show 115 + de + 75 ≤ 206; omega)) (by decide) (by omega) (by omega) (Nat.le_of_ble_eq_true rfl) (fun a8 h8 ρ8 hz8 hS8 hf8 => ?_)
  rw [txL_e] at hS8
  have hlen : (txL lim n).length = 190 + de := by rw [txL_len (by omega), hde]
  refine c_L_74 (b := sb) (As := []) (rest := [.ref (A 11 0 0)]) (fun l => s_J4_toString hz8 hS8 (by omega) (by decide) (fun j hj => getD_b (txL_b (by omega) (by omega)) hj) hfs hf8 l) hrm dL_law_74 rfl rfl (by decide) (by omega) (by omega) hS8.1 rfl (Nat.le_of_ble_eq_true rfl) (fun vr h9 hq => ?_) (fun _ _ hq => hq.elim)
  obtain ⟨q, tb, ρ9, rfl, hz9, ht, hfq, hftb⟩ := hq
  exact w_widen (by omega) (by omega) (k q tb h9 ρ9 hz9 ht hfq hftb)
end LTX
