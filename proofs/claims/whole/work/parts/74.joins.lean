/-! STEPS: the loops of joins -/
section JL
variable {P g : Nat} {d : Pd} {σ0 ρ0 : Zs} {τ : Prop} {X : Nat → Nat → Nat} {σ ρ : Zs} {s t off offb a r : Nat}
theorem r_pairF {ta tb : Nat} (hs : s < 12) (hz3 : zR ρ 898 0 0 0 = (g, 0)) (h1801 : zI ρ 1801 g 0 s = nI (dY d s)) (h1802 : zI ρ 1802 g 0 s = nI (dZ d s)) (h1799 : zI ρ 1799 g 0 s = nI (dS d s)) (b2 : off + 1 + dY d s < 16800) (b3 : offb + 1 + dZ d s < 16800) (h1 : zJ ρ 1940 0 0 off = lN ta) (h2 : zJ ρ 1940 0 0 offb = lN tb) (hta : ta < 1073741824) (htb : tb < 1073741824) (hS : dS d s < 1073741824)
    (hno : ¬ (zJ ρ 1940 0 0 (off + 1 + dY d s) = zJ ρ 1940 0 0 (offb + 1 + dZ d s) ∧ near ta tb (dS d s))) : fX14_pair (nI s) (nI off) (nI offb) ρ = some ((), ρ) := by
  unfold fX14_pair
  have b4 : off < 16800 := by omega
  have b5 : offb < 16800 := by omega
  simp (disch := omega) only [hz3, h1801, h1802, h1799, i_1, i_12, n_gi, n_cl, n_add, hs, b2, b3, b4, b5, h1, h2, ↓reduceIte]
  by_cases q : zJ ρ 1940 0 0 (off + 1 + dY d s) = zJ ρ 1940 0 0 (offb + 1 + dZ d s)
  · have hl0 : lg_cmp (zJ ρ 1940 0 0 (off + 1 + dY d s)) (zJ ρ 1940 0 0 (offb + 1 + dZ d s)) = 0 := l_cmp0.mpr q
    have hnq : ¬ (lg_cmp (p_labs (lN ta - lN tb)) ((nI (dS d s)).toInt64) ≤ 0) := by rw [near_Q hta htb hS]; exact fun z => hno ⟨q, z⟩
    simp only [hl0, hnq, ↓reduceIte]
  · have hl0 : ¬ lg_cmp (zJ ρ 1940 0 0 (off + 1 + dY d s)) (zJ ρ 1940 0 0 (offb + 1 + dZ d s)) = 0 := fun z => q (l_cmp0.mp z)
    simp only [hl0, ↓reduceIte]
theorem r_join0 {ta : Nat} {key : Int64} {k20 : Int32 → Int32 → Zs → Option (Unit × Zs)} (hB : EB P g d σ0 ρ0) (hs : s < dN d) (hk : dK d s = 5) : ∀ (k o n m : Nat) (X : Nat → Nat → Nat) (σ ρ : Zs), o + k = X 8 s → k < n → k < m → ER P d σ0 ρ0 τ X σ ρ → InR d σ ρ (dA d s) ta ((200 * dA d s + X 7 s) * 7) → X 7 s < X 0 (dA d s) → X 8 s ≤ X 0 (dB d s) → zJ σ 1410 0 0 (dY d s) = key →
    ∃ σ' ρ' X', fX1_joinNewRow_89 (nI s) P s 1 n P (dB d s) (nI (X 8 s)) (nI (dZ d s)) key (nI o) σ = some ((), σ') ∧ fX14_doJoin_38 (nI s) k20 m (nI (dA d s)) (nI (dB d s)) (nI o) ρ = k20 (nI (dA d s)) (nI (dB d s)) (sI ρ' 1943 0 0 s (nI (X 7 s + 1))) ∧ ER P d σ0 ρ0 τ X' σ' ρ' ∧ XO s X X' := by
  intro k
  induction k with
  | zero =>
    intro o n m X σ ρ e1 e2 e3 h hin h7 h8 hkey
    obtain ⟨n, rfl⟩ : ∃ j, n = j + 1 := ⟨n - 1, by omega⟩
    obtain ⟨m, rfl⟩ : ∃ j, m = j + 1 := ⟨m - 1, by omega⟩
    obtain ⟨hW, hPC, hPR, hz, hz3, hP⟩ := hB.fr h
    have hN := hW.n
    have e : o = X 8 s := by omega
    subst e
    have b1 : X 8 s ≤ X 8 s := Nat.le_refl _
    have b0 : s < 12 := by omega
    obtain ⟨_, _, _, _, _, hl7, hl8⟩ := h.2.2.2.2.1 s hs
    have T2 := (h.2.2.2.1 (dB d s) (Nat.lt_trans ((hW.2.2.1 s hs).2.2.2.2.2.2.1 (Or.inr hk)) hs)).1
    have T1 := (h.2.2.2.1 (dA d s) (Nat.lt_trans (hW.a hs (by omega)) hs)).1
    refine ⟨σ, ρ, X, ?_, ?_, h, XO.rf⟩
    · rw [fX1_joinNewRow_89]
      simp (disch := omega) only [n_le, b1, ↓reduceIte]
    · rw [fX14_doJoin_38]
      simp (disch := omega) only [hl7, hl8, i_1, i_12, n_gi, n_cl, n_le, n_add, b0, b1, ↓reduceIte, lt_k]
  | succ k ih =>
    intro o n m X σ ρ e1 e2 e3 h hin h7 h8 hkey
    obtain ⟨n, rfl⟩ : ∃ j, n = j + 1 := ⟨n - 1, by omega⟩
    obtain ⟨m, rfl⟩ : ∃ j, m = j + 1 := ⟨m - 1, by omega⟩
    obtain ⟨hW, hPC, hPR, hz, hz3, hP⟩ := hB.fr h
    have hC := hPC.2.2.choose_spec.2.2.1 s hs
    have hR := hPR.2.2.1 s hs
    have hN := hW.n
    have hAs := hW.a hs (by omega)
    obtain ⟨_, _, _, hS1000, _, _, hBs, _, _, _, _, hop, _⟩ := hW.2.2.1 s hs
    have hBs := hBs (Or.inr hk)
    obtain ⟨o1, o2, o3⟩ := hop hk
    have hAN : dA d s < dN d := by omega
    have hBN : dB d s < dN d := by omega
    have hA6 := hW.w6 hAN
    have hB6 := hW.w6 hBN
    have b0 : s < 12 := by omega
    have b1 : ¬ X 8 s ≤ o := by omega
    obtain ⟨_, _, _, _, _, hl7, hl8⟩ := h.2.2.2.2.1 s hs
    obtain ⟨T1, _⟩ := h.2.2.2.1 (dA d s) hAN
    obtain ⟨T2, h512, h513, _, hrows⟩ := h.2.2.2.1 (dB d s) hBN
    obtain ⟨⟨tb, q1, q2, q3⟩, q4⟩ := hrows o (by omega)
    have hta : ta < 1073741824 := by have := hin.2.2.1; unfold TB at this; omega
    have htb : tb < 1073741824 := by unfold TB at q1; omega
    have h455 : zI σ 455 P s 0 = nI (dS d s) := hC.2.2.2.2.2.2.2.2.1 (by omega)
    have h1801 : zI ρ 1801 g 0 s = nI (dY d s) := hR.2.2.2.2.2.2.1 (by omega)
    have h1802 : zI ρ 1802 g 0 s = nI (dZ d s) := hR.2.2.2.2.2.2.2.1 hk
    have h1799 : zI ρ 1799 g 0 s = nI (dS d s) := hR.2.2.2.2.2.2.2.2.1 (by omega)
    have hnum := tab_num (P := P) (s := dB d s) (i := o) (c := dZ d s) h512 h513 T2 (by omega) hB6 o2
    have htim := tab_time (P := P) (s := dB d s) (i := o) h512 T2 (by omega)
    have hoff : (200 * dA d s + X 7 s) * 7 + 7 ≤ 16800 := by omega
    have hoffb : (200 * dB d s + o) * 7 + 7 ≤ 16800 := by omega
    have hka : key = zJ ρ 1940 0 0 ((200 * dA d s + X 7 s) * 7 + 1 + dY d s) := by rw [← hkey]; exact hin.2.2.2.2.2 _ o1
    have hkb := q4 _ o2
    have go : ∀ σ3 ρ3 X3, ER P d σ0 ρ0 τ X3 σ3 ρ3 → XO s X X3 → KG P X σ σ3 → ∃ σ' ρ' X', fX1_joinNewRow_89 (nI s) P s 1 n P (dB d s) (nI (X 8 s)) (nI (dZ d s)) key (nI (o + 1)) σ3 = some ((), σ') ∧ fX14_doJoin_38 (nI s) k20 m (nI (dA d s)) (nI (dB d s)) (nI (o + 1)) ρ3 = k20 (nI (dA d s)) (nI (dB d s)) (sI ρ' 1943 0 0 s (nI (X 7 s + 1))) ∧ ER P d σ0 ρ0 τ X' σ' ρ' ∧ XO s X X' := by
      intro σ3 ρ3 X3 h3 hx hkg
      have x7 : X3 7 s = X 7 s := hx.e (by decide) (by decide)
      have x8 : X3 8 s = X 8 s := hx.e (by decide) (by decide)
      have xa : X3 0 (dA d s) = X 0 (dA d s) := hx.e0 (by omega)
      have xb : X3 0 (dB d s) = X 0 (dB d s) := hx.e0 (by omega)
      have hin3 := InR.kg hW h h3 hAN h7 (by omega) hkg hin
      obtain ⟨σ', ρ', X', u1, u2, u3, u4⟩ := ih (o + 1) n m X3 σ3 ρ3 (by omega) (by omega) (by omega) h3 (by rw [x7]; exact hin3) (by omega) (by omega) (by rw [(hkg.1 _).2.2]; exact hkey)
      rw [x8] at u1
      rw [x7] at u2
      exact ⟨σ', ρ', X', u1, u2, u3, hx.tr u4⟩
    rw [fX1_joinNewRow_89, fX14_doJoin_38]
    simp (disch := omega) only [hl7, hl8, i_1, i_12, n_gi, n_cl, n_le, n_add, b0, b1, ↓reduceIte, fX14_rowAt, bq_s, i_200, i_7, n_mul]
    rw [bq_e hnum]
    by_cases c : zJ σ 1539 P (dB d s) (o * 6 + dZ d s) = key
    · have c0 : lg_cmp (zJ σ 1539 P (dB d s) (o * 6 + dZ d s)) key = 0 := l_cmp0.mpr c
      simp only [c0, ↓reduceIte]
      rw [bq_e htim, q2, hin.1, h455]
      have nc := near_C htb hta (n := dS d s) (by omega)
      by_cases c2 : near tb ta (dS d s)
      · have c3 : ¬ (nI (dS d s) < p_abs (nI tb - nI ta)) := by rw [nc]; exact fun z => z c2
        have hcp := tab_copy (P := P) (s := dB d s) (i := o) (p2 := 1) (s2 := 0) T2 (by omega) hB6 h512 h513
        rw [q2] at hcp
        obtain ⟨f, hf, hcp⟩ : ∃ f, (∀ j, j < dW d (dB d s) → f j = zJ σ 1539 P (dB d s) (o * 6 + j)) ∧ fX8_copyTo P (dB d s) (nI o) 1 0 σ = some ((), wRow σ 1 0 (nI tb) (nI (dW d (dB d s))) f) := ⟨_, fun j hj => if_pos hj, hcp⟩
        have hE : ER P d σ0 ρ0 τ X (wRow σ 1 0 (nI tb) (nI (dW d (dB d s))) f) ρ := h.r1
        have hA1 : AtR 0 ta (dW d (dA d s)) ((200 * dA d s + X 7 s) * 7) (wRow σ 1 0 (nI tb) (nI (dW d (dB d s))) f) ρ := by
          refine ⟨?_, ?_, hin.2.2.2.2.1, fun c hc => ?_⟩
          · rw [zI_wRow, if_neg (by omega), if_neg (by omega)]; exact hin.1
          · rw [zI_wRow, if_neg (by omega), if_neg (by omega)]; exact hin.2.1
          · rw [zJ_wRow, if_neg (by omega)]; exact hin.2.2.2.2.2 c hc
        have hB1 : AtR 1 tb (dW d (dB d s)) ((200 * dB d s + o) * 7) (wRow σ 1 0 (nI tb) (nI (dW d (dB d s))) f) ρ := by
          refine ⟨?_, ?_, q3, fun c hc => ?_⟩
          · rw [zI_wRow, if_pos ⟨rfl, rfl, rfl, rfl⟩]
          · rw [zI_wRow, if_neg (by omega), if_pos ⟨rfl, rfl, rfl, rfl⟩]
          · rw [zJ_wRow, if_pos ⟨rfl, rfl, rfl⟩, hf c hc]; exact q4 c hc
        obtain ⟨σ2, σ3, ρ3, X3, u1, u2, u3, u4, u5, u6⟩ := r_pairT hB hE hs hk (by decide) (by decide) hoff hoffb hA1 hB1 hin.2.2.1 q1 (by rw [← hka, ← hkb]; exact c.symm) (near_s.mp c2)
        have hkg : KG P X σ (wRow σ 1 0 (nI tb) (nI (dW d (dB d s))) f) := by
          refine ⟨fun i => ⟨?_, ?_, ?_⟩, fun a i hi => ⟨rfl, fun c hc => rfl⟩⟩
          · rw [zI_wRow, if_neg (by omega), if_neg (by omega)]
          · rw [zI_wRow, if_neg (by omega), if_neg (by omega)]
          · rw [zJ_wRow, if_neg (by omega)]
        have c4 : ¬ (nI 1 : Int32) = 0 := by decide
        simp only [c3, c4, ↓reduceIte]
        rw [bq_e hcp, fX1_joinNewRow_173, if_neg c4, bq_e u1, bq_e u2, bq_e u3, i_1, n_add]
        exact go σ3 ρ3 X3 u4 u5 (hkg.tr u6)
      · have c3 : (nI (dS d s) < p_abs (nI tb - nI ta)) := by rw [nc]; exact c2
        simp only [c3, ↓reduceIte]
        rw [bq_e (r_pairF b0 hz3 h1801 h1802 h1799 (by omega) (by omega) hin.2.2.2.2.1 q3 hta htb (by omega) (fun z => c2 (near_s.mp z.2)))]
        exact go σ ρ X h XO.rf KG.rf
    · have c0 : ¬ lg_cmp (zJ σ 1539 P (dB d s) (o * 6 + dZ d s)) key = 0 := fun z => c (l_cmp0.mp z)
      simp only [c0, ↓reduceIte]
      rw [bq_e (r_pairF b0 hz3 h1801 h1802 h1799 (by omega) (by omega) hin.2.2.2.2.1 q3 hta htb (by omega) (fun z => c (by rw [hkb, hka]; exact z.1.symm)))]
      exact go σ ρ X h XO.rf KG.rf
theorem r_join1 {tb : Nat} {key : Int64} {k89 : Int32 → Int32 → Zs → Option (Unit × Zs)} (hB : EB P g d σ0 ρ0) (hs : s < dN d) (hk : dK d s = 5) : ∀ (k o n m : Nat) (X : Nat → Nat → Nat) (σ ρ : Zs), o + k = X 0 (dA d s) → k < n → k < m → ER P d σ0 ρ0 τ X σ ρ → InR d σ ρ (dB d s) tb ((200 * dB d s + X 8 s) * 7) → X 8 s < X 0 (dB d s) → zJ σ 1410 0 0 (dZ d s) = key →
    ∃ σ' ρ' X', fX1_joinNewRow_89 (nI s) P s 0 n P (dA d s) (nI (X 0 (dA d s))) (nI (dY d s)) key (nI o) σ = some ((), σ') ∧ fX14_doJoin_107 (nI s) k89 m (nI (dA d s)) (nI (dB d s)) (nI o) ρ = k89 (nI (dA d s)) (nI (dB d s)) (sI ρ' 1944 0 0 s (nI (X 8 s + 1))) ∧ ER P d σ0 ρ0 τ X' σ' ρ' ∧ XO s X X' := by
  intro k
  induction k with
  | zero =>
    intro o n m X σ ρ e1 e2 e3 h hin h8 hkey
    obtain ⟨n, rfl⟩ : ∃ j, n = j + 1 := ⟨n - 1, by omega⟩
    obtain ⟨m, rfl⟩ : ∃ j, m = j + 1 := ⟨m - 1, by omega⟩
    obtain ⟨hW, hPC, hPR, hz, hz3, hP⟩ := hB.fr h
    have hN := hW.n
    have hAs := hW.a hs (by omega)
    have e : o = X 0 (dA d s) := by omega
    subst e
    have b1 : X 0 (dA d s) ≤ X 0 (dA d s) := Nat.le_refl _
    have hl41 := (h.2.2.2.1 (dA d s) (Nat.lt_trans hAs hs)).2.2.2.1
    have b0 : s < 12 := by omega
    obtain ⟨_, _, _, _, _, hl7, hl8⟩ := h.2.2.2.2.1 s hs
    have T2 := (h.2.2.2.1 (dB d s) (Nat.lt_trans ((hW.2.2.1 s hs).2.2.2.2.2.2.1 (Or.inr hk)) hs)).1
    have T1 := (h.2.2.2.1 (dA d s) (Nat.lt_trans (hW.a hs (by omega)) hs)).1
    refine ⟨σ, ρ, X, ?_, ?_, h, XO.rf⟩
    · rw [fX1_joinNewRow_89]
      simp (disch := omega) only [n_le, b1, ↓reduceIte]
    · rw [fX14_doJoin_107]
      simp (disch := omega) only [hl41, hl7, hl8, i_1, i_12, n_gi, n_cl, n_le, n_add, b0, b1, (by omega : dA d s < 12), ↓reduceIte, lt_k]
  | succ k ih =>
    intro o n m X σ ρ e1 e2 e3 h hin h8 hkey
    obtain ⟨n, rfl⟩ : ∃ j, n = j + 1 := ⟨n - 1, by omega⟩
    obtain ⟨m, rfl⟩ : ∃ j, m = j + 1 := ⟨m - 1, by omega⟩
    obtain ⟨hW, hPC, hPR, hz, hz3, hP⟩ := hB.fr h
    have hC := hPC.2.2.choose_spec.2.2.1 s hs
    have hR := hPR.2.2.1 s hs
    have hN := hW.n
    have hAs := hW.a hs (by omega)
    obtain ⟨_, _, _, hS1000, _, _, hBs, _, _, _, _, hop, _⟩ := hW.2.2.1 s hs
    have hBs := hBs (Or.inr hk)
    obtain ⟨o1, o2, o3⟩ := hop hk
    have hAN : dA d s < dN d := by omega
    have hBN : dB d s < dN d := by omega
    have hA6 := hW.w6 hAN
    have hB6 := hW.w6 hBN
    have b0 : s < 12 := by omega
    have b1 : ¬ X 0 (dA d s) ≤ o := by omega
    obtain ⟨_, _, _, _, _, hl7, hl8⟩ := h.2.2.2.2.1 s hs
    obtain ⟨T2, _⟩ := h.2.2.2.1 (dB d s) hBN
    obtain ⟨T1, h512, h513, hl41, hrows⟩ := h.2.2.2.1 (dA d s) hAN
    obtain ⟨⟨ta, q1, q2, q3⟩, q4⟩ := hrows o (by omega)
    have htb : tb < 1073741824 := by have := hin.2.2.1; unfold TB at this; omega
    have hta : ta < 1073741824 := by unfold TB at q1; omega
    have h455 : zI σ 455 P s 0 = nI (dS d s) := hC.2.2.2.2.2.2.2.2.1 (by omega)
    have h1801 : zI ρ 1801 g 0 s = nI (dY d s) := hR.2.2.2.2.2.2.1 (by omega)
    have h1802 : zI ρ 1802 g 0 s = nI (dZ d s) := hR.2.2.2.2.2.2.2.1 hk
    have h1799 : zI ρ 1799 g 0 s = nI (dS d s) := hR.2.2.2.2.2.2.2.2.1 (by omega)
    have hnum := tab_num (P := P) (s := dA d s) (i := o) (c := dY d s) h512 h513 T1 (by omega) hA6 o1
    have htim := tab_time (P := P) (s := dA d s) (i := o) h512 T1 (by omega)
    have hoff : (200 * dA d s + o) * 7 + 7 ≤ 16800 := by omega
    have hoffb : (200 * dB d s + X 8 s) * 7 + 7 ≤ 16800 := by omega
    have hka : key = zJ ρ 1940 0 0 ((200 * dB d s + X 8 s) * 7 + 1 + dZ d s) := by rw [← hkey]; exact hin.2.2.2.2.2 _ o2
    have hkb := q4 _ o1
    have go : ∀ σ3 ρ3 X3, ER P d σ0 ρ0 τ X3 σ3 ρ3 → XO s X X3 → KG P X σ σ3 → ∃ σ' ρ' X', fX1_joinNewRow_89 (nI s) P s 0 n P (dA d s) (nI (X 0 (dA d s))) (nI (dY d s)) key (nI (o + 1)) σ3 = some ((), σ') ∧ fX14_doJoin_107 (nI s) k89 m (nI (dA d s)) (nI (dB d s)) (nI (o + 1)) ρ3 = k89 (nI (dA d s)) (nI (dB d s)) (sI ρ' 1944 0 0 s (nI (X 8 s + 1))) ∧ ER P d σ0 ρ0 τ X' σ' ρ' ∧ XO s X X' := by
      intro σ3 ρ3 X3 h3 hx hkg
      have x7 : X3 7 s = X 7 s := hx.e (by decide) (by decide)
      have x8 : X3 8 s = X 8 s := hx.e (by decide) (by decide)
      have xa : X3 0 (dA d s) = X 0 (dA d s) := hx.e0 (by omega)
      have xb : X3 0 (dB d s) = X 0 (dB d s) := hx.e0 (by omega)
      have hin3 := InR.kg hW h h3 hBN h8 (by omega) hkg hin
      obtain ⟨σ', ρ', X', u1, u2, u3, u4⟩ := ih (o + 1) n m X3 σ3 ρ3 (by omega) (by omega) (by omega) h3 (by rw [x8]; exact hin3) (by omega) (by rw [(hkg.1 _).2.2]; exact hkey)
      rw [xa] at u1
      rw [x8] at u2
      exact ⟨σ', ρ', X', u1, u2, u3, hx.tr u4⟩
    rw [fX1_joinNewRow_89, fX14_doJoin_107]
    simp (disch := omega) only [hl41, hl7, hl8, i_1, i_12, n_gi, n_cl, n_le, n_add, b0, b1, (by omega : dA d s < 12), ↓reduceIte, fX14_rowAt, bq_s, i_200, i_7, n_mul]
    rw [bq_e hnum]
    by_cases c : zJ σ 1539 P (dA d s) (o * 6 + dY d s) = key
    · have c0 : lg_cmp (zJ σ 1539 P (dA d s) (o * 6 + dY d s)) key = 0 := l_cmp0.mpr c
      simp only [c0, ↓reduceIte]
      rw [bq_e htim, q2, hin.1, h455]
      have nc := near_C hta htb (n := dS d s) (by omega)
      by_cases c2 : near ta tb (dS d s)
      · have c3 : ¬ (nI (dS d s) < p_abs (nI ta - nI tb)) := by rw [nc]; exact fun z => z c2
        have hcp := tab_copy (P := P) (s := dA d s) (i := o) (p2 := 1) (s2 := 0) T1 (by omega) hA6 h512 h513
        rw [q2] at hcp
        obtain ⟨f, hf, hcp⟩ : ∃ f, (∀ j, j < dW d (dA d s) → f j = zJ σ 1539 P (dA d s) (o * 6 + j)) ∧ fX8_copyTo P (dA d s) (nI o) 1 0 σ = some ((), wRow σ 1 0 (nI ta) (nI (dW d (dA d s))) f) := ⟨_, fun j hj => if_pos hj, hcp⟩
        have hE : ER P d σ0 ρ0 τ X (wRow σ 1 0 (nI ta) (nI (dW d (dA d s))) f) ρ := h.r1
        have hA1 : AtR 1 ta (dW d (dA d s)) ((200 * dA d s + o) * 7) (wRow σ 1 0 (nI ta) (nI (dW d (dA d s))) f) ρ := by
          refine ⟨?_, ?_, q3, fun c hc => ?_⟩
          · rw [zI_wRow, if_pos ⟨rfl, rfl, rfl, rfl⟩]
          · rw [zI_wRow, if_neg (by omega), if_pos ⟨rfl, rfl, rfl, rfl⟩]
          · rw [zJ_wRow, if_pos ⟨rfl, rfl, rfl⟩, hf c hc]; exact q4 c hc
        have hB1 : AtR 0 tb (dW d (dB d s)) ((200 * dB d s + X 8 s) * 7) (wRow σ 1 0 (nI ta) (nI (dW d (dA d s))) f) ρ := by
          refine ⟨?_, ?_, hin.2.2.2.2.1, fun c hc => ?_⟩
          · rw [zI_wRow, if_neg (by omega), if_neg (by omega)]; exact hin.1
          · rw [zI_wRow, if_neg (by omega), if_neg (by omega)]; exact hin.2.1
          · rw [zJ_wRow, if_neg (by omega)]; exact hin.2.2.2.2.2 c hc
        obtain ⟨σ2, σ3, ρ3, X3, u1, u2, u3, u4, u5, u6⟩ := r_pairT hB hE hs hk (by decide) (by decide) hoff hoffb hA1 hB1 q1 hin.2.2.1 (by rw [← hka, ← hkb]; exact c) c2
        have hkg : KG P X σ (wRow σ 1 0 (nI ta) (nI (dW d (dA d s))) f) := by
          refine ⟨fun i => ⟨?_, ?_, ?_⟩, fun a i hi => ⟨rfl, fun c hc => rfl⟩⟩
          · rw [zI_wRow, if_neg (by omega), if_neg (by omega)]
          · rw [zI_wRow, if_neg (by omega), if_neg (by omega)]
          · rw [zJ_wRow, if_neg (by omega)]
        simp only [c3, ↓reduceIte]
        rw [bq_e hcp, fX1_joinNewRow_173, if_pos (rfl : (0 : Int32) = 0), bq_e u1, bq_e u2, bq_e u3, i_1, n_add]
        exact go σ3 ρ3 X3 u4 u5 (hkg.tr u6)
      · have c3 : (nI (dS d s) < p_abs (nI ta - nI tb)) := by rw [nc]; exact c2
        simp only [c3, ↓reduceIte]
        rw [bq_e (r_pairF b0 hz3 h1801 h1802 h1799 (by omega) (by omega) q3 hin.2.2.2.2.1 hta htb (by omega) (fun z => c2 z.2))]
        exact go σ ρ X h XO.rf KG.rf
    · have c0 : ¬ lg_cmp (zJ σ 1539 P (dA d s) (o * 6 + dY d s)) key = 0 := fun z => c (l_cmp0.mp z)
      simp only [c0, ↓reduceIte]
      rw [bq_e (r_pairF b0 hz3 h1801 h1802 h1799 (by omega) (by omega) q3 hin.2.2.2.2.1 hta htb (by omega) (fun z => c (by rw [hkb, hka]; exact z.1)))]
      exact go σ ρ X h XO.rf KG.rf
end JL
