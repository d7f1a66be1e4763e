/-! BOTH PARSERS FROM THEIR START -/
def d0 : Pd := (fun _ _ _ => 0, fun _ _ => 0, fun _ _ => [])
theorem good_0 : GoodD d0 := ⟨⟨Nat.zero_le _, Nat.zero_le _, fun _ h => absurd h (Nat.not_lt_zero _), fun _ h => absurd h (Nat.not_lt_zero _)⟩, fun _ h => absurd h (Nat.not_lt_zero _), fun _ h => absurd h (Nat.not_lt_zero _), fun _ h => absurd h (Nat.not_lt_zero _)⟩
def avD (z : Zs) (k p : Int32) (w : Int64) : Zs := sJ (sI (sI (sI z 259 0 0 0 (nI 0)) 260 0 0 0 k) 261 0 0 0 p) 262 0 0 0 w
/-- before the first token -/
def Beg (x : Cx) : Prop := Cok x ∧ (zR (qC x) 194 0 0 0 = (qS x, 0) ∧ zI (qC x) 321 (qS x) 0 0 = nI 0 ∧ zI (qC x) 323 (qS x) 0 0 = nI 0 ∧ zI (qC x) 326 (qS x) 0 0 = nI 0 ∧ (∃ n, n ≤ 1500 ∧ zI (qC x) 201 0 0 0 = nI n) ∧ (∀ p s, ∃ w, w ≤ 6 ∧ zI (qC x) 450 p s 0 = nI w) ∧ KT (qC x)) ∧ (zI (qC x) 258 0 0 0 = -nI 1 ∧ zI (qC x) 259 0 0 0 = -nI 1 ∧ zI (qC x) 192 0 0 0 = 0) ∧ zI (qL x) 768 (qG x) 0 0 = nI 0 ∧ zI (qL x) 781 (qG x) 0 0 = nI 0 ∧ zI (qL x) 785 (qG x) 0 0 = nI 0 ∧ zI (qL x) 1795 (qG x) 0 0 = nI 0
section RD0
variable {x : Cx} {σ ρ : Zs}
theorem adv_0 (h : Beg x) : ∃ w, fX4_advance (qC x) = some ((), avD (qC x) (ck (qk x 0)) (nI (qp x 0)) w) ∧ ITm x d0 0 (avD (qC x) (ck (qk x 0)) (nI (qp x 0)) w) (sI (sI (sI (qL x) 905 0 0 0 0) 907 0 0 0 0) 908 0 0 0 (-1)) := by
  obtain ⟨hc, ⟨b1, b2, b3, b4, b5, b6, b7⟩, ⟨c1, c2, c3⟩, l1, l2, l3, l4⟩ := h
  have hn : 0 < qN x := hc.1.1.1
  have T := hc.1.2.2.1 0 hn
  obtain ⟨C, e1, e2, e3⟩ := hc.1.2.1
  have g : gi (nI 0) 1501 := (n_gi (by omega)).mpr (by omega)
  have nl : ¬ nI C ≤ nI 0 := by rw [n_le (by omega) (by omega)]; omega
  have n0 : ¬ nI 0 < 0 := by decide
  refine ⟨zJ (qC x) 1602 0 0 0, ?_, ?_⟩
  · unfold fX4_advance
    have q0 : ¬ (0 : Int32) ≤ zI (qC x) 258 0 0 0 := by rw [c1]; decide
    have q2 : (nI 0 : Int32) < nI C := (n_lt (by omega) (by omega)).mpr (by omega)
    rw [if_neg q0, c2, show (-nI 1 + 1 : Int32) = nI 0 by decide, if_neg n0, e3, if_pos q2, lt_k]
    have s1 : zI (sI (qC x) 259 0 0 0 (nI 0)) 259 0 0 0 = nI 0 := rfl
    have s2 : zI (sI (qC x) 259 0 0 0 (nI 0)) 1600 0 0 0 = ck (qk x 0) := T.2.2.2.2.2.1
    rw [s1, if_pos g, n_cl (by omega), s2, lt_k]
    have s3 : zI (sI (sI (qC x) 259 0 0 0 (nI 0)) 260 0 0 0 (ck (qk x 0))) 259 0 0 0 = nI 0 := rfl
    have s4 : zI (sI (sI (qC x) 259 0 0 0 (nI 0)) 260 0 0 0 (ck (qk x 0))) 1601 0 0 0 = nI (qp x 0) := T.2.2.2.2.2.2.1
    rw [s3, if_pos g, n_cl (by omega), s4, lt_k]
    have s5 : zI (sI (sI (sI (qC x) 259 0 0 0 (nI 0)) 260 0 0 0 (ck (qk x 0))) 261 0 0 0 (nI (qp x 0))) 259 0 0 0 = nI 0 := rfl
    have s6 : zJ (sI (sI (sI (qC x) 259 0 0 0 (nI 0)) 260 0 0 0 (ck (qk x 0))) 261 0 0 0 (nI (qp x 0))) 1602 0 0 0 = zJ (qC x) 1602 0 0 0 := rfl
    rw [s5, if_pos g, n_cl (by omega), s6, lt_k]
    rfl
  · have hL : LFr x (sI (sI (sI (qL x) 905 0 0 0 0) 907 0 0 0 0) 908 0 0 0 (-1)) := ((LFr.I (LFr.I (LFr.I (fun _ _ _ _ _ => ⟨rfl, rfl, rfl⟩) (wl0 rfl)) (wl0 rfl)) (wl0 rfl)))
    have hF : CFr (qS x) (qC x) (avD (qC x) (ck (qk x 0)) (nI (qp x 0)) (zJ (qC x) 1602 0 0 0)) := (((CFr.rf.I (w0 rfl)).I (w0 rfl)).I (w0 rfl)).J (w0 rfl)
    refine ⟨⟨⟨b1, ⟨0, by omega, b2⟩, ⟨0, by omega, b3⟩, ⟨0, by omega, b4⟩, b5, b6, Or.inl c1, ⟨qp x 0, by have := T.2.1; omega, rfl⟩, b7⟩, hF, fun k => absurd c3 k, fun _ => rfl⟩, hL, ⟨hn, c1, rfl, rfl, rfl, fun q => T.2.2.2.2.2.2.2.1 q, rfl⟩, rfl, rfl, fun _ => ⟨l1, l2, l4⟩, fun _ => ?_⟩
    exact ⟨c3, good_0, 0, 0, Nat.le_refl _, Nat.zero_le _, b4, l3, b2, b3, l1, l2, fun _ h => absurd h (Nat.not_lt_zero _), fun _ h => absurd h (Nat.not_lt_zero _), fun _ h => absurd h (Nat.not_lt_zero _), fun _ h => absurd h (Nat.not_lt_zero _)⟩
/-- the class's run behind its two stores -/
noncomputable def cRun (σ : Zs) : Option (Int32 × Zs) := bq (fX4_advance σ) fun _ z => fX4_parse_16 FU 0 z
theorem p16_0 {n : Nat} {z : Zs} (h : zI z 258 0 0 0 = -nI 1) : fX4_parse_16 (n + 1) 0 z = bq (cItem z) fun _ z' => fX4_parse_16 n (nI 1) z' := by
  have n0 : ¬ (0 : Int32) ≤ zI z 258 0 0 0 := by rw [h]; decide
  rw [fX4_parse_16, if_neg (by decide), if_neg n0, if_pos rfl, p41_e]
  rfl
theorem c_run (h : Beg x) : Wp1 (cRun (qC x)) fun v z => St0 (qS x) (qC x) z ∧ v = zI z 258 0 0 0 := by
  obtain ⟨w, e1, e2⟩ := adv_0 h
  unfold cRun
  rw [bq_e e1]
  exact k_parse16 1500 0 FU _ (by omega) (by unfold FU; omega) e2.1
theorem x_read (h : Beg x) : SM (Er0 x) (cRun (qC x)) (fX14_readAll (qL x)) (fun v σ' _ ρ' => v = -nI 1 ∧ LOK x σ' ρ') := by
  obtain ⟨w, e1, e2⟩ := adv_0 h
  have hc := h.1
  unfold cRun fX14_readAll
  rw [bq_e e1, lt_k, lt_k, lt_k, show FU = 19999 + 1 from rfl, p16_0 e2.2.2.1.2.1]
  refine sm_b (x_item hc e2) (fun _ σ2 _ ρ2 g => ?_) (fun _ σ2 e ρ2 g => ?_)
  · obtain ⟨t', d', g1, g2⟩ := g
    have ht' := hc.n g2.2.2.1.1
    exact x_items hc (1501 - t') t' 1 19999 (19999 + 1) d' σ2 ρ2 (by omega) (by omega) (by omega) (by omega) (by omega) g2
  · exact g.go0 fun h => wp_m (k_parse16 1499 1 19999 _ (by omega) (by omega) h) fun _ _ q => q.1
end RD0
