/-! ITEMS, both: a step's work, whole -/
noncomputable def cBody (kd : Nat) (z : Zs) : Option (Unit × Zs) := if kd = 3 then bq (fX4_take 132 z) fun _ z => bq (fX4_wholeExpression z) fun _ z => cEnd z else if kd = 5 then bq (fX4_newColumns z) fun _ z => cEnd z else if kd = 7 then bq (fX4_takeNames 5 z) fun _ z => cEnd z else if kd = 8 then bq (fX4_secondInput z) fun _ z => cEnd z else if kd = 9 then bq (fX4_secondInput z) fun _ z => bq (oKey 138 z) fun _ z => cJn z else if kd = 12 then bq (oKey 141 z) fun _ z => bq (fX4_takeRange 139 z) fun _ z => cEnd z else bq (fX4_window z) fun _ z => cEnd z
noncomputable def cWork (z : Zs) : Option (Unit × Zs) := bq (fX4_kindOfWork (zI z 260 0 0 0) z) fun v17 σ18 => if v17 = 0 then (bq (fX4_fail σ18) fun v133 σ134 => fX4_step_45 (zI z 260 0 0 0) σ134) else (fX4_step_45 (zI z 260 0 0 0) σ18)
section SS8
variable {x : Cx} {t : Nat} {σ ρ : Zs} {d : Pd}
theorem k_cBody {S kd : Nat} {σ0 z : Zs} (h : St S 0 σ0 z) : Wp1 (cBody kd z) fun _ => St0 S σ0 := by
  have e : ∀ z, St S 0 σ0 z → Wp1 (cEnd z) fun _ => St0 S σ0 := fun z h => kb0 (k_endStream h) fun _ _ h => h
  unfold cBody
  refine wp_ite (kb (k_take h) fun _ _ h => kb (k_whole h (by omega)) fun _ z h => e z h) (wp_ite (kb (k_newColumns h) fun _ z h => e z h) (wp_ite (kb (k_takeNames h) fun _ z h => e z h) (wp_ite (kb (k_secondInput h) fun _ z h => e z h) (wp_ite (kb (k_secondInput h) fun _ _ h => kb (k_key h) fun _ _ h => k_cJn h) (wp_ite (kb (k_key h) fun _ _ h => kb (k_takeRange h) fun _ z h => e z h) (kb (k_window h) fun _ z h => e z h))))))
theorem cBody_9 : cBody 9 = fun z => bq (fX4_secondInput z) fun _ z => bq (fX4_take 138 z) fun _ z => bq (fX4_takeName 4 z) fun _ z => cJn z := by
  funext z
  show bq (fX4_secondInput z) (fun _ z => bq (oKey 138 z) fun _ z => cJn z) = _
  exact congrArg _ (funext fun _ => funext fun z => oKey_q)
theorem cBody_12 : cBody 12 = fun z => bq (fX4_take 141 z) fun _ z => bq (fX4_takeName 4 z) fun _ z => bq (fX4_takeRange 139 z) fun _ z => cEnd z := by
  funext z
  show bq (oKey 141 z) (fun _ z => bq (fX4_takeRange 139 z) fun _ z => cEnd z) = _
  exact oKey_q
theorem step45_e {kd : Nat} (hd : kd = 3 ∨ kd = 5 ∨ kd = 7 ∨ kd = 8 ∨ kd = 9 ∨ kd = 12 ∨ kd = 14) : fX4_step_45 (ck kd) σ = bq (fX3_startWork (nI (wdK kd)) (zI σ 261 0 0 0) σ) fun _ z => bq (fX4_take (ck kd) z) fun _ z => bq (fX4_takeName 2 z) fun _ z => cBody kd z := by
  unfold fX4_step_45 fX4_kindOfWork
  rcases hd with rfl | rfl | rfl | rfl | rfl | rfl | rfl
  · rfl
  · rfl
  · rfl
  · rfl
  · rw [cBody_9]; rfl
  · rw [cBody_12]; rfl
  · rfl
theorem kow_y {kd : Nat} (hd : kd = 3 ∨ kd = 5 ∨ kd = 7 ∨ kd = 8 ∨ kd = 9 ∨ kd = 12 ∨ kd = 14) : fX4_kindOfWork (ck kd) σ = some (nI (wdK kd), σ) := by
  unfold fX4_kindOfWork
  rcases hd with rfl | rfl | rfl | rfl | rfl | rfl | rfl <;> rfl
theorem kow_n {y : Int32} (hd : ∀ kd, kd = 3 ∨ kd = 5 ∨ kd = 7 ∨ kd = 8 ∨ kd = 9 ∨ kd = 12 ∨ kd = 14 → ¬ y = ck kd) : fX4_kindOfWork y σ = some (0, σ) := by
  unfold fX4_kindOfWork
  rw [if_neg (show ¬ y = 131 from hd 3 (by omega)), if_neg (show ¬ y = 133 from hd 5 (by omega)), if_neg (show ¬ y = 135 from hd 7 (by omega)), if_neg (show ¬ y = 136 from hd 8 (by omega)), if_neg (show ¬ y = 137 from hd 9 (by omega)), if_neg (show ¬ y = 140 from hd 12 (by omega)), if_neg (show ¬ y = 142 from hd 14 (by omega))]
  repeat' split
  all_goals rfl
theorem k_45 {S : Nat} {σ0 : Zs} (y : Int32) (z : Zs) (h : St S 0 σ0 z) : Wp1 (fX4_step_45 y z) fun _ => St0 S σ0 := by
  have e0 : ∀ z, St S 0 σ0 z → Wp1 (bq (fX3_endStream z) fun v σ => some ((), σ)) fun _ => St0 S σ0 := fun z h => kb0 (k_endStream h) fun _ _ h => h
  unfold fX4_step_45
  obtain ⟨v, e1⟩ := k_kow (z := z) y
  rw [bq_e e1]
  refine kb (k_startWork h) fun _ _ h => kb (k_take h) fun _ _ h => kb (k_takeName h (by omega) (Or.inr rfl)) fun _ z h => ?_
  repeat (first
    | exact e0 z h
    | exact kb (k_take h) fun _ _ h => kb (k_whole h (by omega)) fun _ z h => e0 z h
    | exact kb (k_newColumns h) fun _ z h => e0 z h
    | exact kb (k_takeNames h) fun _ z h => e0 z h
    | exact kb (k_secondInput h) fun _ z h => e0 z h
    | exact kb (k_secondInput h) fun _ _ h => kb (k_take h) fun _ _ h => kb (k_takeName h (by omega) (Or.inr rfl)) fun _ _ h => kb (k_takeRange h) fun _ z h => e0 z h
    | exact kb (k_take h) fun _ _ h => kb (k_takeName h (by omega) (Or.inr rfl)) fun _ _ h => kb (k_takeRange h) fun _ z h => e0 z h
    | exact kb (k_window h) fun _ z h => e0 z h
    | refine wp_ite ?_ ?_)
theorem k_cWork {S : Nat} {σ0 z : Zs} (h : St S 0 σ0 z) : Wp1 (cWork z) fun _ => St0 S σ0 := by
  unfold cWork
  obtain ⟨v, e1⟩ := k_kow (z := z) (zI z 260 0 0 0)
  rw [bq_e e1]
  exact wp_ite (kb (k_fail h) fun _ z h => k_45 _ z h) (k_45 _ z h)
theorem x_work (hc : Cok x) {L z np : Nat} {nm : Int64} {σb ρb : Zs} (h : IP x 0 t σ ρ) (hD : SW0 x d L z σb ρb nm np t σ ρ) (h456 : qM x = 1 → zI σ 456 (qS x) (dN d) 0 = nI 0) : SM (Er0 x) (cWork σ) (bw (fX14_work (nI (sIdx x d)) ρ) fun _ ρ => lEnd nm (nI np) (nI (sIdx x d)) ρ) (fun _ σ' _ ρ' => ∃ t' d', t ≤ t' ∧ ITm x d' t' σ' ρ') := by
  obtain ⟨kd, hkd⟩ : ∃ k, k = qk x t := ⟨_, rfl⟩
  have hv := h.vk hc
  unfold cWork
  rw [h.c0, ← hkd]
  by_cases hd : kd = 3 ∨ kd = 5 ∨ kd = 7 ∨ kd = 8 ∨ kd = 9 ∨ kd = 12 ∨ kd = 14
  · have hK : 1 ≤ wdK kd ∧ wdK kd ≤ 7 := by rcases hd with rfl | rfl | rfl | rfl | rfl | rfl | rfl <;> decide
    rw [bq_e (kow_y hd), if_neg (show ¬ (nI (wdK kd) : Int32) = 0 by rw [i_0, n_eq (by omega) (by omega)]; omega), step45_e hd, h.c1, work_e hc h hkd.symm hd, bw_as2]
    have e2 : (fun (_ : Unit) (ρ4 : Zs) => bw (bw (fX14_streamNamed ρ4) fun w12 ρ9 => lWk (nI (sIdx x d)) w12 (nI (wdK kd)) (lBody kd (nI (sIdx x d)) (nI (qp x t)) w12) ρ9) fun _ ρ => lEnd nm (nI np) (nI (sIdx x d)) ρ) = fun (_ : Unit) (ρ4 : Zs) => bw (fX14_streamNamed ρ4) fun w12 ρ9 => lWk (nI (sIdx x d)) w12 (nI (wdK kd)) (fun ρ => bw (lBody kd (nI (sIdx x d)) (nI (qp x t)) w12 ρ) fun _ ρ => lEnd nm (nI np) (nI (sIdx x d)) ρ) ρ9 := by
      funext _ ρ4
      rw [bw_as2]
      refine congrArg _ (funext fun w12 => funext fun ρ9 => ?_)
      exact lWk_bw
    rw [e2]
    refine s_wk (σw := σ) (B := fun w12 ρ => bw (lBody kd (nI (sIdx x d)) (nI (qp x t)) w12 ρ) fun _ ρ => lEnd nm (nI np) (nI (sIdx x d)) ρ) hc rfl (by omega) hK h hD hkd.symm (fun _ _ h => k_cBody h) (fun A σ2 ρ2 g1 g2 g3 => ?_)
    have up : ∀ {o : Option (Unit × Zs)} {r : Option (Except (Int32 × Int32) Unit × Zs)}, SM (Er0 x) o r (fun _ σ' _ ρ' => ∃ t' d', t + 1 + 1 ≤ t' ∧ ITm x d' t' σ' ρ') → SM (Er0 x) o r (fun _ σ' _ ρ' => ∃ t' d', t ≤ t' ∧ ITm x d' t' σ' ρ') := fun h => sm_m h fun _ _ _ _ ⟨t', d', q1, q2⟩ => ⟨t', d', by omega, q2⟩
    refine up ?_
    rcases hd with rfl | rfl | rfl | rfl | rfl | rfl | rfl
    · have := s_body hc (x_keep hc g1 g2)
      rw [bq_as] at this
      exact this
    · exact s_body hc (x_make hc (by omega) g1 g2)
    · exact s_body hc (x_pick hc (by omega) g1 g2)
    · exact x_merge hc g1 g2
    · have := x_join hc g1 g2
      show SM (Er0 x) (bq (fX4_secondInput σ2) fun _ z => bq (oKey 138 z) fun _ z => cJn z) (bw (bw (fX14_join (nI (sIdx x d)) (nI A) ρ2) fun _ ρ65 => some (.ok (), ρ65)) fun _ ρ => lEnd nm (nI np) (nI (sIdx x d)) ρ) _
      rw [bw_as2]
      exact this
    · have := s_body hc (x_first hc g1 g2)
      rw [bq_as] at this
      exact this
    · have := s_body hc (x_window hc (by omega) g1 g2 (fun m => (g3 m).trans (h456 m)))
      show SM (Er0 x) (bq (fX4_window σ2) fun _ z => cEnd z) (bw (bw (fX14_window (nI (sIdx x d)) (nI A) ρ2) fun _ ρ65 => some (.ok (), ρ65)) fun _ ρ => lEnd nm (nI np) (nI (sIdx x d)) ρ) _
      rw [bw_as2]
      exact this
  · have hn : ∀ k, k = 3 ∨ k = 5 ∨ k = 7 ∨ k = 8 ∨ k = 9 ∨ k = 12 ∨ k = 14 → ¬ ck kd = ck k := fun k hk => ck_ne (by rw [hkd]; exact hv.1) (by rcases hk with rfl | rfl | rfl | rfl | rfl | rfl | rfl <;> rfl) (fun z => hd (by rw [z]; exact hk))
    rw [bq_e (kow_n hn), if_pos rfl, work_no hc h hkd.symm (by omega) hd]
    obtain ⟨⟨⟩, z3, w2, w3⟩ := wp_ex (Er.fail h.2.2.1 hc h.1 h.2.1)
    rw [bq_e w2]
    exact sm_xw rfl (w3.go0 fun h => k_45 _ _ h)
end SS8
