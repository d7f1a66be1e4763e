/-! WHAT A GIVEN ROW LEAVES ALONE: the row at hand, the rows that stand in tables -/
def KG (P : Nat) (X : Nat → Nat → Nat) (σ σ' : Zs) : Prop := (∀ i, zI σ' 384 0 0 i = zI σ 384 0 0 i ∧ zI σ' 385 0 0 i = zI σ 385 0 0 i ∧ zJ σ' 1410 0 0 i = zJ σ 1410 0 0 i) ∧ ∀ a i, i < X 0 a → zI σ' 1538 P a i = zI σ 1538 P a i ∧ ∀ c, c < 6 → zJ σ' 1539 P a (i * 6 + c) = zJ σ 1539 P a (i * 6 + c)
theorem KG.rf {P : Nat} {X : Nat → Nat → Nat} {σ : Zs} : KG P X σ σ := ⟨fun _ => ⟨rfl, rfl, rfl⟩, fun _ _ _ => ⟨rfl, fun _ _ => rfl⟩⟩
theorem KG.tr {P : Nat} {X : Nat → Nat → Nat} {σ σ' σ2 : Zs} (h : KG P X σ σ') (k : KG P X σ' σ2) : KG P X σ σ2 := ⟨fun i => ⟨(k.1 i).1.trans (h.1 i).1, (k.1 i).2.1.trans (h.1 i).2.1, (k.1 i).2.2.trans (h.1 i).2.2⟩, fun a i hi => ⟨(k.2 a i hi).1.trans (h.2 a i hi).1, fun c hc => ((k.2 a i hi).2 c hc).trans ((h.2 a i hi).2 c hc)⟩⟩
section KGS
variable {P g : Nat} {d : Pd} {σ0 ρ0 : Zs} {τ : Prop} {X : Nat → Nat → Nat} {σ ρ : Zs} {s p2 s2 t h : Nat} {x y : Int32}
theorem hold_kg (h1 : zI σ 66 0 0 0 = nI h) (h2 : h ≤ 60) (h3 : h < 60 → ∃ q, zR σ 1089 0 0 h = (4, q)) (hp : ¬ p2 = 4) : ∃ σ', fX1_hold x y p2 s2 σ = some ((), σ') ∧ KG P X σ σ' := by
  by_cases e : h = 60
  · rw [e] at h1
    exact ⟨_, hold_Cf h1, KG.rf⟩
  · obtain ⟨q, hq⟩ := h3 (by omega)
    refine ⟨_, hold_C (by omega) h1 hq hp, fun i => ⟨?_, ?_, ?_⟩, fun a i hi => ⟨?_, fun c hc => ?_⟩⟩
    · unfold holdC
      simp only [zI_sI, zI_wRow]
      grind
    · unfold holdC
      simp only [zI_sI, zI_wRow]
      grind
    · unfold holdC
      simp only [zJ_sI, zJ_wRow]
      grind
    · rfl
    · rfl
theorem acc_kg (hs : s < 12) (hz : zR σ 64 0 0 0 = (P, 0)) (h1 : zI σ 512 P s 0 = nI (X 0 s)) (h2 : X 0 s ≤ 200) : ∃ σ', fX1_accept (nI s) p2 s2 σ = some ((), σ') ∧ KG P X σ σ' := by
  unfold fX1_accept
  simp (disch := omega) only [n_gi, n_cl, hs, hz, ↓reduceIte]
  by_cases e : X 0 s = 200
  · rw [e] at h1
    rw [bq_e (tab_full h1)]
    simp only [↓reduceIte, lt_k]
    exact ⟨_, rfl, KG.rf⟩
  · rw [bq_e (tab_add (by omega) h1)]
    have b2 : ¬ (1 : Int32) = 0 := by decide
    simp only [b2, ↓reduceIte, lt_k]
    refine ⟨_, rfl, fun i => ⟨rfl, rfl, rfl⟩, fun a i hi => ⟨?_, fun c hc => ?_⟩⟩
    · show (if 1538 = 1538 ∧ P = P ∧ a = s ∧ i = X 0 s then _ else _) = _
      by_cases q : a = s
      · subst q
        rw [if_neg (by omega)]
      · rw [if_neg (by omega)]
    · show (if 1539 = 1539 ∧ P = P ∧ a = s then (if X 0 s * 6 ≤ i * 6 + c ∧ i * 6 + c < X 0 s * 6 + 6 then _ else _) else _) = _
      by_cases q : a = s
      · subst q
        rw [if_pos ⟨rfl, rfl, rfl⟩, if_neg (by omega)]
      · rw [if_neg (by omega)]; rfl
theorem give_kg_l (hB : EB P g d σ0 ρ0) (hs : s < dN d) (ht : t ≤ TB s) (hp2 : ¬ p2 = 4) : ∀ (k y n : Nat) (σ ρ : Zs), y + k = dM d → k < n → ER P d σ0 ρ0 τ X σ ρ → RW p2 s2 t (dW d s) σ ρ → ∃ σ', fX1_give_2 (nI s) p2 s2 n (nI y) σ = some ((), σ') ∧ KG P X σ σ' := by
  intro k
  induction k with
  | zero =>
    intro y n σ ρ h1 h2 h hw
    obtain ⟨n, rfl⟩ : ∃ j, n = j + 1 := ⟨n - 1, by omega⟩
    obtain ⟨hW, hPC, hPR, hz, hz2, hP⟩ := hB.fr h
    have hM := hW.2.1
    have hN := hW.n
    have e : y = dM d := by omega
    subst e
    obtain ⟨a1, a2, a3, a4, a5⟩ := h.2.2.2.1 s hs
    obtain ⟨σ', u, v⟩ := acc_kg (P := P) (X := X) (p2 := p2) (s2 := s2) (s := s) (σ := σ) (by omega) hz a2 a1
    refine ⟨σ', ?_, v⟩
    rw [fX1_give_2]
    have a : dM d ≤ dM d := Nat.le_refl _
    simp (disch := omega) only [hz, hPC.2.1, n_le, a, ↓reduceIte]
    rw [bq_e u]
  | succ k ih =>
    intro y n σ ρ h1 h2 h hw
    obtain ⟨n, rfl⟩ : ∃ j, n = j + 1 := ⟨n - 1, by omega⟩
    obtain ⟨hW, hPC, hPR, hz, hz2, hP⟩ := hB.fr h
    have hM := hW.2.1
    have hN := hW.1
    have hy : y < dM d := by omega
    obtain ⟨w1, w2, w3, w4⟩ := hW.2.2.2 y hy
    obtain ⟨L, hL, hl, _, hPC⟩ := hPC.2.2
    obtain ⟨c1, c2, a, c3, c4, c5, c6⟩ := hPC y hy
    obtain ⟨r1, r2, b, r3, r4, r5⟩ := hPR.2.2.2 y hy
    have hPC2 := (hB.fr h).2.1.2.1
    have a1 : ¬ dM d ≤ y := by omega
    have a2 : y < 8 := by omega
    rw [fX1_give_2]
    simp (disch := omega) only [hz, hPC2, n_le, a1, i_1, n_add, n_gi, n_cl, a2, c1, n_eq, ↓reduceIte]
    by_cases e : dCS d y = s
    · subst e
      simp only [c3, c4, ↓reduceIte]
      have hwr := r_worth (n2 := 7) (hW.w6 hs) (by decide) (by decide) (by have := hW.w6 hs; omega) hL w4 c6 r5 c5 hl r4 (hw.rr (by unfold TB at ht; omega)) hz2
      obtain ⟨v, σ1, v', ρ1, u1, u2, rfl, ⟨f1, rfl⟩, ⟨f2, rfl⟩⟩ := w2_ex hwr
      rw [bq_e u1]
      have h := h.st (f := f1)
      have h := h.k56 (f := f2)
      have hw : RW p2 s2 t (dW d (dCS d y)) (jJ σ 1351 P 0 f1) (jJ ρ 1956 0 0 f2) := hw
      have hk : KG P X σ (jJ σ 1351 P 0 f1) := KG.rf
      by_cases q : lg_cmp v 0 = 0
      · simp only [q, ↓reduceIte]
        rw [lt_k]
        obtain ⟨z1, hz1⟩ : ∃ z, z = sI (jJ σ 1351 P 0 f1) 4 P y 0 (zI (jJ σ 1351 P 0 f1) 4 P y 0 + nI 1) := ⟨_, rfl⟩
        rw [← hz1]
        have hk1 : KG P X σ z1 := by rw [hz1]; exact KG.rf
        have c2 : zI z1 1 P y 0 = nI (128 + dCF d y) := by rw [hz1]; exact c2
        have hz : zR z1 64 0 0 0 = (P, 0) := by rw [hz1]; exact hz
        have hH : zI z1 66 0 0 0 = nI (X 5 0) ∧ (X 5 0 < 60 → ∃ q, zR z1 1089 0 0 (X 5 0) = (4, q)) ∧ X 5 0 ≤ 60 := by
          obtain ⟨q1, q2, _, π, p1, _⟩ := h.2.2.2.2.2.2.1
          rw [hz1]
          exact ⟨q2, fun q => ⟨π (X 5 0), (p1 _ q).2⟩, q1⟩
        have f0 : dCF d y = 19 ∨ dCF d y = 20 ∨ dCF d y = 21 := by omega
        rcases f0 with f0 | f0 | f0
        · rw [f0] at c2
          have e1 : ¬ (nI (128 + 19) : Int32) = 149 := by decide
          have e2 : (nI (128 + 19) : Int32) = 147 := by decide
          simp (disch := omega) only [hz, c2, n_gi, n_cl, a2, e1, e2, ↓reduceIte]
          exact ⟨_, rfl, hk1⟩
        · rw [f0] at c2
          have e1 : ¬ (nI (128 + 20) : Int32) = 149 := by decide
          have e2 : ¬ (nI (128 + 20) : Int32) = 147 := by decide
          simp (disch := omega) only [hz, c2, n_gi, n_cl, a2, e1, e2, ↓reduceIte]
          obtain ⟨σ', u1, u2⟩ := hold_kg (P := P) (X := X) (x := nI (dCS d y)) (y := nI y) (s2 := s2) hH.1 hH.2.2 hH.2.1 hp2
          rw [bq_e u1]
          exact ⟨_, rfl, hk1.tr u2⟩
        · rw [f0] at c2
          have e1 : (nI (128 + 21) : Int32) = 149 := by decide
          have e2 : ¬ (nI (128 + 21) : Int32) = 147 := by decide
          have b1 : ∀ v, zI (sI z1 68 0 0 0 v) 1 P y 0 = zI z1 1 P y 0 := fun v => rfl
          have b2 : ∀ v, zR (sI z1 68 0 0 0 v) 64 0 0 0 = zR z1 64 0 0 0 := fun v => rfl
          simp (disch := omega) only [hz, c2, n_gi, n_cl, a2, e1, e2, ↓reduceIte, lt_k, b1, b2]
          obtain ⟨σ', u1, u2⟩ := hold_kg (P := P) (X := X) (σ := sI z1 68 0 0 0 (nI 1)) (x := nI (dCS d y)) (y := nI y) (s2 := s2) hH.1 hH.2.2 hH.2.1 hp2
          rw [bq_e u1]
          exact ⟨_, rfl, hk1.tr u2⟩
      · simp only [q, ↓reduceIte]
        obtain ⟨σ', u3, u4⟩ := ih (y + 1) n _ _ (by omega) (by omega) h hw
        exact ⟨σ', u3, hk.tr u4⟩
    · simp only [e, ↓reduceIte]
      exact ih (y + 1) n σ ρ (by omega) (by omega) h hw
theorem give_kg (hB : EB P g d σ0 ρ0) (h : ER P d σ0 ρ0 τ X σ ρ) (hs : s < dN d) (hw : RW p2 s2 t (dW d s) σ ρ) (ht : t ≤ TB s) (hp2 : ¬ p2 = 4) : ∃ σ', fX1_give (nI s) p2 s2 σ = some ((), σ') ∧ KG P X σ σ' := by
  unfold fX1_give
  have hM := hB.1.2.1
  have hf : dM d < FU := by unfold FU; omega
  exact give_kg_l hB hs ht hp2 (dM d) 0 FU σ ρ (by omega) hf h hw
/-- both sides, and what stays -/
theorem r_giveK (hB : EB P g d σ0 ρ0) (h : ER P d σ0 ρ0 τ X σ ρ) (hs : s < dN d) (hw : RW p2 s2 t (dW d s) σ ρ) (ht : t ≤ TB s) (hp2 : p2 = 0 ∨ p2 = 2 ∨ p2 = 5) : ∃ σ' ρ' X', fX1_give (nI s) p2 s2 σ = some ((), σ') ∧ fX14_offer (nI s) ρ = some ((), ρ') ∧ ER P d σ0 ρ0 τ X' σ' ρ' ∧ XO s X X' ∧ KG P X σ σ' := by
  obtain ⟨_, σ', _, ρ', u1, u2, X', u3, u4⟩ := w2_ex (r_give hB h hs hw ht hp2)
  obtain ⟨σ2, v1, v2⟩ := give_kg hB h hs hw ht (by omega)
  have e : σ2 = σ' := by
    rw [u1] at v1
    exact (congrArg Prod.snd (Option.some.inj v1)).symm
  exact ⟨σ', ρ', X', u1, u2, u3, u4, e ▸ v2⟩
/-- the row at hand still stands in the law's rows -/
theorem InR.kg {X' : Nat → Nat → Nat} {σ' ρ' : Zs} {a r : Nat} (hW : WFd d) (h : ER P d σ0 ρ0 τ X σ ρ) (h' : ER P d σ0 ρ0 τ X' σ' ρ') (ha : a < dN d) (hr : r < X 0 a) (hr' : r < X' 0 a) (k : KG P X σ σ') (hin : InR d σ ρ a t ((200 * a + r) * 7)) : InR d σ' ρ' a t ((200 * a + r) * 7) := by
  obtain ⟨i1, i2, i3, i4, i5, i6⟩ := hin
  obtain ⟨⟨t1, q1, q2, q3⟩, q4⟩ := (h.2.2.2.1 a ha).2.2.2.2 r hr
  obtain ⟨⟨t2, p1, p2, p3⟩, p4⟩ := (h'.2.2.2.1 a ha).2.2.2.2 r hr'
  have h6 := hW.w6 ha
  refine ⟨(k.1 0).1.trans i1, (k.1 0).2.1.trans i2, i3, i4, ?_, fun c hc => ?_⟩
  · rw [p3]
    have e : nI t2 = nI t1 := p2.symm.trans ((k.2 a r hr).1.trans q2)
    have hN := hW.n
    unfold TB at p1 q1
    rw [n_eq (by omega) (by omega)] at e
    rw [e, ← q3]; exact i5
  · rw [(k.1 c).2.2, i6 c hc, ← p4 c hc, (k.2 a r hr).2 c (by omega)]
    exact (q4 c hc).symm
end KGS
