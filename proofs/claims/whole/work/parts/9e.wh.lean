/-! A WHOLE EXPRESSION, both -/
def wW (S c q : Nat) : Bool := decide (q = 0) && [258, 259, 260, 261, 262, 263, 205].contains c || decide (q = S) && [326, 1348, 1349].contains c
def WFC (S L : Nat) (σ0 σ : Zs) : Prop := (∀ c q, wW S c q = false → ∀ s i, zI σ c q s i = zI σ0 c q s i ∧ zJ σ c q s i = zJ σ0 c q s i ∧ zR σ c q s i = zR σ0 c q s i) ∧ ∀ j, j < L → zI σ 1348 S 0 j = zI σ0 1348 S 0 j ∧ zJ σ 1349 S 0 j = zJ σ0 1349 S 0 j
/-- between expressions -/
def IP (x : Cx) (b t : Nat) (σ ρ : Zs) : Prop := St (qS x) b (qC x) σ ∧ LFr x ρ ∧ PSt x t σ ρ ∧ zI ρ 908 0 0 0 = -nI 1 ∧ zI ρ 907 0 0 0 = nI 0
def WQ (x : Cx) (W L0 z0 t' : Nat) (l : List Op) (σ ρ σ1 : Zs) (s : Int32) (ρ' : Zs) : Prop := s = nI z0 ∧ zI σ1 192 0 0 0 = 0 ∧ zI σ1 205 0 0 0 = nI L0 ∧ zI σ1 326 (qS x) 0 0 = nI (L0 + l.length) ∧ Cg (qS x) σ1 L0 l ∧ Rg (qG x) ρ' z0 l ∧ zI ρ' 785 (qG x) 0 0 = nI (z0 + l.length + 1) ∧ okO W l ∧ L0 + l.length ≤ t' ∧ z0 + l.length + 1 ≤ 2 * t' ∧ WFC (qS x) L0 σ σ1 ∧ XFL (qG x) z0 ρ ρ'
section WH
variable {x : Cx} {b t : Nat} {σ ρ : Zs}
theorem x_whole (hc : Cok x) {a W L0 z0 : Nat} (h : IP x b t σ ρ) (hb : b ≤ 1) (hm : qM x = 1 → zI σ 192 0 0 0 = 0 ∧ Scp x a W σ ρ ∧ zI σ 326 (qS x) 0 0 = nI L0 ∧ zI ρ 785 (qG x) 0 0 = nI z0 ∧ L0 ≤ t ∧ z0 ≤ 2 * t) :
    SM (Er x b) (fX4_wholeExpression σ) (fX14_whole ρ) (fun _ σ' s ρ' => ∃ t' σ1 l, t + 1 ≤ t' ∧ IP x b t' σ1 ρ' ∧ IP x b t' σ' ρ' ∧ fX3_endExpression σ1 = some ((), σ') ∧ XFL (qG x) z0 ρ ρ' ∧ (qM x = 1 → WQ x W L0 z0 t' l σ ρ σ1 s ρ')) := by
  obtain ⟨h1, h2, h3, h4, h5⟩ := h
  obtain ⟨σs, hσs⟩ : ∃ z, z = sI (sI σ 263 0 0 0 0) 205 0 0 0 (zI (sI σ 263 0 0 0 0) 326 ((zR (sI σ 263 0 0 0 0) 194 0 0 0).1) 0 0) := ⟨_, rfl⟩
  obtain ⟨ρs, hρs⟩ : ∃ z, z = sI ρ 908 0 0 0 60 := ⟨_, rfl⟩
  have hcl : fX4_wholeExpression σ = bq (fX4_expression (nI 0) (pfac 10) σs) fun _ z => bq (fX3_endExpression z) fun _ z => some ((), z) := by
    unfold fX4_wholeExpression fX3_startExpression fX4_expression'
    rw [lt_k, lt_k, bq_s, hσs]
    rfl
  have r2 : (zR ρ 909 0 0 0).2 = 0 := by rw [hc.g h2]
  have r1 : (zR ρ 909 0 0 0).1 = qG x := by rw [hc.g h2]
  have hll : fX14_whole ρ = bw (fX14_expression (qfac 10) ρs) fun _ ρ6 => bq (fX14_emit 50 0 (sI ρ6 908 0 0 0 (-1))) fun _ ρ13 => some (.ok (zI ρ 785 (qG x) 0 0), ρ13) := by
    unfold fX14_whole fX14_expression'
    rw [if_pos r2, lt_k, hρs, r1]
    rfl
  have hst : St (qS x) b (qC x) σs := by rw [hσs]; exact (h1.I (w0 rfl) rfl).I (w0 rfl) rfl
  have hfr : WFC (qS x) L0 σ σs := by
    rw [hσs]
    refine ⟨fun c q hw s i => ⟨?_, rfl, rfl⟩, fun _ _ => ⟨rfl, rfl⟩⟩
    rw [zI_sI, if_neg, zI_sI, if_neg]
    · rintro ⟨rfl, rfl, _⟩; cases hw
    · rintro ⟨rfl, rfl, _⟩; cases hw
  have hXP : XP x (b, a, W, L0, z0, σs, ρs) t 0 0 [] σs ρs := by
    refine ⟨hst, ?_, ?_, ?_, by omega, ?_, ?_, ⟨fun _ _ _ _ _ => ⟨rfl, rfl, rfl⟩, fun _ _ => ⟨rfl, rfl⟩⟩, fun m => ?_⟩
    · rw [hρs]; exact h2.I (wl0 rfl)
    · rw [hσs, hρs]; exact h3
    · rw [hσs]; rfl
    · rw [hρs]; rfl
    · rw [hρs]; exact h5
    · obtain ⟨g1, g2, g3, g4, g5, g6⟩ := hm m
      refine ⟨?_, ⟨?_, fun j hj => absurd hj (Nat.not_lt_zero _), ?_, fun j hj => absurd hj (Nat.not_lt_zero _)⟩, ⟨fun _ _ _ _ _ => ⟨rfl, rfl, rfl⟩, fun _ _ => ⟨rfl, rfl⟩⟩, ⟨fun _ _ _ _ _ => ⟨rfl, rfl, rfl⟩, fun _ _ => ⟨rfl, rfl⟩⟩⟩
      · rw [hσs]; exact g1
      · rw [hσs]; exact g3
      · rw [hρs]; exact g4
  have hS : qM x = 1 → Scp x a W σs ρs := fun m => by
    obtain ⟨g1, g2, g3, g4, g5, g6⟩ := hm m
    rw [hσs, hρs]; exact g2
  have hbn : bnd x (b, a, W, L0, z0, σs, ρs) t [] := fun m => by
    obtain ⟨g1, g2, g3, g4, g5, g6⟩ := hm m
    exact ⟨g5, g6⟩
  have hFS := x_expr (x := x) (E := (b, a, W, L0, z0, σs, ρs)) (dp := 0) hc (by decide) (x_pfac (E := (b, a, W, L0, z0, σs, ρs)) hc hS 10 10 0 (by omega) (by omega) (by omega)) (fun σ0 z h => k_pfac 10 0 (by omega) (by omega) z h)
  rw [hcl, hll]
  refine sm_b (hFS t 0 [] σs ρs hXP hbn) (fun _ σ8 _ ρ6 g => ?_) (fun _ _ _ _ g => g.go fun h => kb (k_endExpression h hb) fun _ _ h => h)
  obtain ⟨t', e', l, g1, g2, g3, g4⟩ := g
  rw [List.nil_append] at g1
  obtain ⟨p1, p2, p3, p4, p5, p6, p7, p8⟩ := g1
  obtain ⟨⟨⟩, σ', e1, k1, k2⟩ := wp_ex (wp_an (k_endExpression p1 hb) (mf_X3_endExpression MF.rf))
  have e1' : bq (fX3_endExpression σ8) (fun _ z => some ((), z)) = some ((), σ') := by rw [bq_e e1]
  have hI : ∀ ρ', LFr x ρ' → zI ρ' 905 0 0 0 = zI ρ6 905 0 0 0 → zI ρ' 908 0 0 0 = -nI 1 → zI ρ' 907 0 0 0 = nI 0 → ∀ z, St (qS x) b (qC x) z → MF σ8 z → IP x b t' z ρ' := fun ρ' q1 q2 q3 q4 z q5 q6 => ⟨q5, q1, ⟨p3.1, (p3.mf q6).2.1, (p3.mf q6).2.2.1, (p3.mf q6).2.2.2.1, (p3.mf q6).2.2.2.2.1, (p3.mf q6).2.2.2.2.2.1, q2.trans p3.2.2.2.2.2.2⟩, q3, q4⟩
  have hL1 : LFr x (sI ρ6 908 0 0 0 (-1)) := p2.I (wl0 rfl)
  rw [e1']
  have hs : XFL (qG x) z0 ρ ρs := by
    rw [hρs]
    exact XFL.I ⟨fun _ _ _ _ _ => ⟨rfl, rfl, rfl⟩, fun _ _ => ⟨rfl, rfl⟩⟩ (x_wY0 rfl) (fun z => by cases z)
  have hxt : ∀ y, XFL (qG x) z0 ρs y → XFL (qG x) z0 ρ y := fun y k => by
    refine ⟨fun c q hw s i => ?_, fun j hj => ?_⟩
    · obtain ⟨a1, a2, a3⟩ := k.1 c q hw s i
      obtain ⟨b1, b2, b3⟩ := hs.1 c q hw s i
      exact ⟨a1.trans b1, a2.trans b2, a3.trans b3⟩
    · obtain ⟨a1, a2⟩ := k.2 j hj
      obtain ⟨b1, b2⟩ := hs.2 j hj
      exact ⟨a1.trans b1, a2.trans b2⟩
  have p80 : XFL (qG x) z0 ρs (sI ρ6 908 0 0 0 (-1)) := p8.1.I (x_wY0 rfl) (fun z => by cases z)
  rcases m01 hc with m | m
  · have e0 : fX14_emit 50 0 (sI ρ6 908 0 0 0 (-1)) = some ((), sI ρ6 908 0 0 0 (-1)) := by
      unfold fX14_emit
      rw [hc.m hL1, m, if_pos (by rfl)]
    rw [bq_e e0]
    exact sm_ok ⟨t', σ8, l, by omega, hI _ hL1 rfl rfl p7 σ8 p1 MF.rf, hI _ hL1 rfl rfl p7 σ' k1 k2, e1, hxt _ p80, fun q => by omega⟩
  · obtain ⟨q1, ⟨q2, q3, q4, q5⟩, q6, q7⟩ := p8.2 m
    obtain ⟨m1, m2, m3, m4, m5, m6⟩ := hm m
    obtain ⟨u1, u2⟩ := g4 m
    have ht' := hc.n p3.1
    have hn : z0 + l.length < 3000 := by omega
    have q4' : zI (sI ρ6 908 0 0 0 (-1)) 785 (qG x) 0 0 = nI (z0 + l.length) := q4
    have hem := em_L (z := sI ρ6 908 0 0 0 (-1)) (c := 50) (v := 0) (by rw [hc.m hL1, m]) (hc.g hL1) q4' hn
    have hL2 : LFr x (emR (sI ρ6 908 0 0 0 (-1)) (qG x) (z0 + l.length) 50 0) := ((hL1.I (wlG rfl)).J (wlG rfl)).I (wlG5 m)
    rw [bq_e hem]
    have q7' : XFL (qG x) z0 ρs (emR (sI ρ6 908 0 0 0 (-1)) (qG x) (z0 + l.length) 50 0) := ((p80.I (x_wYG rfl) (fun _ => Nat.le_add_right z0 _)).J (x_wYG rfl) (fun _ => Nat.le_add_right z0 _)).I (x_wYG rfl) (fun z => by omega)
    refine sm_ok ⟨t', σ8, l, by omega, hI _ hL2 rfl rfl p7 σ8 p1 MF.rf, hI _ hL2 rfl rfl p7 σ' k1 k2, e1, hxt _ q7', fun _ => ⟨m4, q1, ?_, q2, q3, ⟨fun j hj => ?_, ?_⟩, ?_, ⟨by omega, u2 0⟩, by omega, by omega, ?_, ?_⟩⟩
    · rw [(q6.1 205 0 (x_wXn rfl rfl) 0 0).1]
      show zI σs 205 0 0 0 = nI L0
      have e4 : (zR (sI σ 263 0 0 0 0) 194 0 0 0).1 = qS x := h1.s4
      rw [hσs, zI_sI, if_pos ⟨rfl, rfl, rfl, rfl⟩, e4]
      exact m3
    · have f1 : zI (emR (sI ρ6 908 0 0 0 (-1)) (qG x) (z0 + l.length) 50 0) 1810 (qG x) 0 (z0 + j) = zI ρ6 1810 (qG x) 0 (z0 + j) := by
        show zI (sI (sI ρ6 908 0 0 0 (-1)) 1810 (qG x) 0 (z0 + l.length) 50) 1810 (qG x) 0 (z0 + j) = _
        rw [zI_sI, if_neg (fun z => by have := z.2.2.2; omega)]; rfl
      have f2 : zJ (emR (sI ρ6 908 0 0 0 (-1)) (qG x) (z0 + l.length) 50 0) 1811 (qG x) 0 (z0 + j) = zJ ρ6 1811 (qG x) 0 (z0 + j) := by
        show zJ (sJ (sI (sI ρ6 908 0 0 0 (-1)) 1810 (qG x) 0 (z0 + l.length) 50) 1811 (qG x) 0 (z0 + l.length) 0) 1811 (qG x) 0 (z0 + j) = _
        rw [zJ_sJ, if_neg (fun z => by have := z.2.2.2; omega)]; rfl
      rw [f1, f2]
      exact q5 j hj
    · show zI (sI (sI ρ6 908 0 0 0 (-1)) 1810 (qG x) 0 (z0 + l.length) 50) 1810 (qG x) 0 (z0 + l.length) = 50
      rw [zI_sI, if_pos ⟨rfl, rfl, rfl, rfl⟩]
    · unfold emR
      rw [zI_sI, if_pos ⟨rfl, rfl, rfl, rfl⟩]
    · refine ⟨fun c q hw s i => ?_, fun j hj => ?_⟩
      · have hwx : wX (qS x) c q = false := by
          unfold wX; unfold wW at hw
          simp only [Bool.or_eq_false_iff, Bool.and_eq_false_iff, decide_eq_false_iff_not] at hw ⊢
          refine ⟨hw.1.imp id (fun z => ?_), hw.2⟩
          simp only [List.contains_cons, List.contains_nil, Bool.or_false, Bool.or_eq_false_iff, beq_eq_false_iff_ne] at z ⊢
          exact ⟨z.1, z.2.1, z.2.2.1, z.2.2.2.1, z.2.2.2.2.1, z.2.2.2.2.2.1⟩
        obtain ⟨a1, a2, a3⟩ := q6.1 c q hwx s i
        obtain ⟨b1, b2, b3⟩ := hfr.1 c q hw s i
        exact ⟨a1.trans b1, a2.trans b2, a3.trans b3⟩
      · obtain ⟨a1, a2⟩ := q6.2 j hj
        obtain ⟨b1, b2⟩ := hfr.2 j hj
        exact ⟨a1.trans b1, a2.trans b2⟩
    · exact hxt _ q7'
end WH
