/-! WINDOWS: all totals of a row; the row of a window -/
section CO
variable {P g : Nat} {d : Pd} {σ0 ρ0 : Zs} {τ : Prop} {X : Nat → Nat → Nat} {σ ρ : Zs} {s w y : Nat}
theorem ER.col (h : ER P d σ0 ρ0 τ X σ ρ) (hN : dN d ≤ 12) (h6 : ∀ s, s < dN d → dW d s ≤ 6) (hs : s < dN d) (hw : w < X 4 s) (hy : 2 ≤ y) (hyW : y < dW d s) (H1 : X 12 0 = s + 1) (H2 : X 13 0 = w) (H3 : X 14 0 = y) {z : Nat} {x : Int64} (hz : zI σ 1668 P s w = nI z) (hz2 : z < 2147483648) (h9 : X 9 s < 2147483648) (hx : dP d s y = 23 → x = lN z) :
    ER P d σ0 ρ0 τ (upx X 14 0 (y + 1)) (sJ σ 1669 P s (w * 4 + (y - 2)) x) (sJ ρ 1962 0 0 ((60 * s + w) * 6 + y) x) := by
  obtain ⟨hT, hFC, hFR, hTab, hSeen, hWin, hHeld, hChk, hSc, hGiv⟩ := h
  refine ⟨hT, hFC.J (by simp [wC]), hFR.J (by decide), hTab, hSeen, fun a ha => ?_, hHeld, hChk, hSc, hGiv⟩
  obtain ⟨a1, a2, a3, a4, a5⟩ := hWin a ha
  have a6 := h6 a ha
  have s6 := h6 s hs
  have s60 := (hWin s hs).1
  refine ⟨a1, a2, a3, a4, fun v hv => ?_⟩
  obtain ⟨b, z', cl, hb0, hc0, b1, b2, b3, b4, b5, b6, b7, b8, b9, b10, b11, b12⟩ := a5 v hv
  have hv4 : v < X 4 a := hv
  refine ⟨b, z', cl, hb0, hc0, b1, b2, b3, b4, b5, b6, b7, b8, b9, b10, b11, fun c c1 c2 => ?_⟩
  have eH : EHo (upx X 14 0 (y + 1)) a v c ↔ a = s ∧ v = w ∧ y + 1 ≤ c := by
    show (X 12 0 = a + 1 ∧ X 13 0 = v ∧ y + 1 ≤ c) ↔ _
    omega
  have eH' : EHo X a v c ↔ a = s ∧ v = w ∧ y ≤ c := by
    unfold EHo
    omega
  obtain ⟨g1, g2⟩ := b12 c c1 c2
  by_cases e : a = s ∧ v = w ∧ c = y
  · obtain ⟨rfl, rfl, rfl⟩ := e
    have ez : z' = z := by
      rw [hz] at b10
      exact ((n_eq hz2 (by omega)).mp b10).symm
    subst ez
    refine ⟨fun _ => ⟨?_, fun q => ?_⟩, fun q => absurd (eH.mp q).2.2 (by omega)⟩
    · rw [zJ_sJ, zJ_sJ, if_pos ⟨rfl, rfl, rfl, rfl⟩, if_pos ⟨rfl, rfl, rfl, rfl⟩]
    · rw [zJ_sJ, if_pos ⟨rfl, rfl, rfl, rfl⟩]; exact hx q
  · have keep : ∀ z0, EWt P d σ ρ a v c z0 → EWt P d (sJ σ 1669 P s (w * 4 + (y - 2)) x) (sJ ρ 1962 0 0 ((60 * s + w) * 6 + y) x) a v c z0 := by
      intro z0 hq
      have n1 : ¬ (1669 = 1669 ∧ P = P ∧ a = s ∧ v * 4 + (c - 2) = w * 4 + (y - 2)) := fun q => e ⟨q.2.2.1, by omega, by omega⟩
      have n2 : ¬ (1962 = 1962 ∧ 0 = 0 ∧ 0 = 0 ∧ (60 * a + v) * 6 + c = (60 * s + w) * 6 + y) := fun q => e ⟨by omega, by omega, by omega⟩
      refine ⟨?_, fun q => ?_⟩
      · rw [zJ_sJ, zJ_sJ, if_neg n1, if_neg n2]; exact hq.1
      · rw [zJ_sJ, if_neg n2]; exact hq.2 q
    by_cases e2 : a = s ∧ v = w
    · have e3 : c ≠ y := fun q => e ⟨e2.1, e2.2, q⟩
      refine ⟨fun q => keep _ (g1 (fun q2 => q (eH.mpr ⟨e2.1, e2.2, by have := (eH'.mp q2).2.2; omega⟩))), fun q q1 => keep _ (g2 (eH'.mpr ⟨e2.1, e2.2, by have := (eH.mp q).2.2; omega⟩) q1)⟩
    · refine ⟨fun _ => keep _ (g1 (fun q2 => e2 ⟨(eH'.mp q2).1, (eH'.mp q2).2.1⟩)), fun q => absurd ⟨(eH.mp q).1, (eH.mp q).2.1⟩ e2⟩
theorem ER.close (h : ER P d σ0 ρ0 τ X σ ρ) (H1 : X 12 0 = s + 1) (H3 : dW d s ≤ X 14 0) : ER P d σ0 ρ0 τ (upx X 12 0 0) σ ρ := by
  obtain ⟨hT, hFC, hFR, hTab, hSeen, hWin, hHeld, hChk, hSc, hGiv⟩ := h
  refine ⟨hT, hFC, hFR, hTab, hSeen, fun a ha => ?_, hHeld, hChk, hSc, hGiv⟩
  obtain ⟨a1, a2, a3, a4, a5⟩ := hWin a ha
  refine ⟨a1, a2, a3, a4, fun v hv => ?_⟩
  obtain ⟨b, z', cl, hb0, hc0, b1, b2, b3, b4, b5, b6, b7, b8, b9, b10, b11, b12⟩ := a5 v hv
  refine ⟨b, z', cl, hb0, hc0, b1, b2, b3, b4, b5, b6, b7, b8, b9, b10, b11, fun c c1 c2 => ⟨fun _ => (b12 c c1 c2).1 (fun q => ?_), fun q => absurd q (EHo.no (X := upx X 12 0 0) rfl)⟩⟩
  obtain ⟨q1, q2, q3⟩ := q
  have : a = s := by omega
  subst this
  omega
theorem r_cols {x1 x2 x5 yb : Int32} {c2 p2 s2 n2 off W : Nat} {f : Int32} {z : Nat} (hB : EB P g d σ0 ρ0) (hs : s < dN d) (hk7 : dK d s = 7) (hc2 : c2 = 1940 ∨ c2 = 1919) (hn2 : n2 < 2147483648) (hoff : off + W < n2) (hWA : W = dW d (dA d s)) (hz1 : 1 ≤ z) (hz2 : z < 2147483648) (hf : (z = 1 ∧ f = nI 1) ∨ (1 < z ∧ f = nI 0)) : ∀ (k y n m : Nat) (X : Nat → Nat → Nat) (σ ρ : Zs), y + k = dW d s → 2 ≤ y → k < n → k < m → w < X 4 s → X 12 0 = s + 1 → X 13 0 = w → X 14 0 = y → X 9 s < 2147483648 → zI σ 1668 P s w = nI z → RowR 0 0 σ c2 p2 s2 off W ρ → ER P d σ0 ρ0 τ X σ ρ →
    ∃ σ' ρ', fX1_enterWindow_147 x1 x2 n P s yb P s (nI w) (nI y) σ = fX1_enterWindow_233 x1 x2 P s yb P s (nI w) σ' ∧ fX14_putIn_161 (nI s) c2 p2 s2 n2 (nI off) x5 yb m (nI w) f (nI y) ρ = some (nI w, ρ') ∧ ER P d σ0 ρ0 τ (upx X 14 0 (dW d s)) σ' ρ' := by
  intro k
  induction k with
  | zero =>
    intro y n m X σ ρ h1 h2 h3 h4 h5 h6 h7 h8 h9 h10 h11 h
    obtain ⟨n, rfl⟩ : ∃ j, n = j + 1 := ⟨n - 1, by omega⟩
    obtain ⟨m, rfl⟩ : ∃ j, m = j + 1 := ⟨m - 1, by omega⟩
    obtain ⟨hW, hPC, hPR, hz, hz3, hP⟩ := hB.fr h
    have hN := hW.n
    have h450 := (hPC.2.2.choose_spec.2.2.1 s hs).2.2.1
    have h1795 := (hPR.2.2.1 s hs).2.2.1
    have w6 := hW.w6 hs
    have b1 : dW d s ≤ y := by omega
    have b2 : s < 12 := by omega
    refine ⟨σ, ρ, ?_, ?_, ?_⟩
    · rw [fX1_enterWindow_147]
      simp (disch := omega) only [h450, n_le, b1, ↓reduceIte]
    · rw [fX14_putIn_161]
      simp (disch := omega) only [h1795, hz3, i_12, n_gi, n_cl, n_le, b1, b2, ↓reduceIte]
    · have e : y = dW d s := by omega
      subst e
      have : upx X 14 0 (dW d s) = X := by
        funext a b
        show (if a = 14 ∧ b = 0 then _ else _) = _
        split
        · rename_i q; obtain ⟨rfl, rfl⟩ := q; exact h8.symm
        · rfl
      rw [this]; exact h
  | succ k ih =>
    intro y n m X σ ρ h1 h2 h3 h4 h5 h6 h7 h8 h9 h10 h11 h
    obtain ⟨n, rfl⟩ : ∃ j, n = j + 1 := ⟨n - 1, by omega⟩
    obtain ⟨m, rfl⟩ : ∃ j, m = j + 1 := ⟨m - 1, by omega⟩
    obtain ⟨hW, hPC, hPR, hz, hz3, hP⟩ := hB.fr h
    have hN := hW.n
    obtain ⟨L, hL, hl, hPC, _⟩ := hPC.2.2
    have hC := hPC s hs
    have hR := hPR.2.2.1 s hs
    have h450 := hC.2.2.1
    have h1795 := hR.2.2.1
    have w6 := hW.w6 hs
    have hy : y < dW d s := by omega
    have b1 : ¬ dW d s ≤ y := by omega
    have b2 : s < 12 := by omega
    have b3 : ¬ 6 ≤ y := by omega
    have b4 : y < 6 := by omega
    have b5 : 6 * s + y < 72 := by omega
    have s60 := (h.2.2.2.2.2.1 s hs).1
    have b6 : (60 * s + w) * 6 + y < 4320 := by omega
    have hAs : dA d s < s := hW.a hs (by rw [hk7]; decide)
    have hA6 := hW.w6 (Nat.lt_trans hAs hs)
    obtain ⟨o1, o2, o3, hop⟩ := (hW.2.2.1 s hs).2.2.2.2.2.2.2.2.2.2.2.2.2 hk7
    obtain ⟨hp1, hp2, hpo⟩ := hop y h2 hy
    have hcp : zI σ 1483 P s y = nI (128 + dP d s y) := hC.2.2.2.2.2.2.2.2.2.2.2.1 hk7 y h2 hy
    have hrp : zI ρ 1804 g 0 (6 * s + y) = nI (dP d s y) := hR.2.2.2.2.2.2.2.2.2.2.2.1 hk7 y h2 hy
    obtain ⟨b', z', cl', hb0, hc0, k1, k2, k3, k4, k5, k6, k7, k8, k9, k10, k11, k12⟩ := (h.2.2.2.2.2.1 s hs).2.2.2.2 w h5
    have ez : z' = z := by
      rw [h10] at k10
      exact ((n_eq hz2 (by omega)).mp k10).symm
    subst ez
    obtain ⟨q1, q2⟩ := k12 y h2 hy
    have h640 := (h.2.2.2.2.2.1 s hs).2.2.1
    have hH : EHo X s w y := ⟨h6, h7, by omega⟩
    have hold : 1 < z' → EWt P d σ ρ s w y (z' - 1) := q2 hH
    rw [fX1_enterWindow_147, fX14_putIn_161]
    simp (disch := omega) only [hz3, hz, h450, h1795, hcp, hrp, i_0, i_1, i_2, i_12, i_6, i_60, n_gi, n_cl, n_le, n_eq, n_mul, n_add, n_sub, b1, b2, b3, b4, b5, ↓reduceIte]
    -- what is left when the number v is known
    have fin : ∀ (v : Int64) (σ1 ρ1 : Zs), ER P d σ0 ρ0 τ X σ1 ρ1 → RowR 0 0 σ1 c2 p2 s2 off W ρ1 → zI σ1 1668 P s w = nI z' → zI σ1 1483 P s y = nI (128 + dP d s y) → zI σ1 640 P s 0 = nI (X 4 s) → zJ σ1 1669 P s (w * 4 + (y - 2)) = zJ σ 1669 P s (w * 4 + (y - 2)) → zJ ρ1 1962 0 0 ((60 * s + w) * 6 + y) = zJ ρ 1962 0 0 ((60 * s + w) * 6 + y) → (dP d s y = 23 → v = 1) →
        ∃ σ' ρ', fX1_enterWindow_205 x1 x2 (fun byp3 bys3 by5 byp6 bys6 by7 by8 σb => fX1_enterWindow_147 x1 x2 n byp3 bys3 by5 byp6 bys6 by7 by8 σb) P s yb P s (nI w) (nI y) (if dP d s y = 23 then 0 else v) σ1 = fX1_enterWindow_233 x1 x2 P s yb P s (nI w) σ' ∧ fX14_putIn_257 (nI s) c2 p2 s2 n2 (nI off) x5 yb (fun by8 by9 by10 ρb => fX14_putIn_161 (nI s) c2 p2 s2 n2 (nI off) x5 yb m by8 by9 by10 ρb) (nI w) f (nI y) (nI (dP d s y)) (nI ((60 * s + w) * 6 + y)) v (if z' = 1 then 0 else zJ ρ1 1962 0 0 ((60 * s + w) * 6 + y)) ρ1 = some (nI w, ρ') ∧ ER P d σ0 ρ0 τ (upx X 14 0 (dW d s)) σ' ρ' := by
      intro v σ1 ρ1 hE hRR e1 e2 e3 e4 e5 ev
      have hval : ∀ v', (dP d s y = 23 ∨ v' = v) → tot (dP d s y) z' (zJ σ1 1669 P s (w * 4 + (y - 2))) v' = tot (dP d s y) z' (zJ ρ1 1962 0 0 ((60 * s + w) * 6 + y)) v := by
        intro v' hv'
        unfold tot
        by_cases e23 : dP d s y = 23
        · rw [if_pos e23, if_pos e23]
        · rw [if_neg e23, if_neg e23]
          rcases hv' with hv' | rfl
          · exact absurd hv' e23
          · by_cases e1' : z' = 1
            · rw [if_pos e1', if_pos e1']
            · rw [e4, e5, (hold (by omega)).1]
      rw [put_R hp1 hp2 hz1 b6 hf (fun q q2 => by rw [e5]; exact (hold q).2 q2) ev]
      unfold fX1_enterWindow_205
      simp (disch := omega) only [i_1, i_2, i_6, n_gi, n_cl, n_sub, n_add, b4, e2, ↓reduceIte]
      rw [bq_e (add_C (z := z') h5 s60 e3 e1 hz2 h2 b4 hp1 hp2), hval _ (by by_cases e : dP d s y = 23 <;> simp [e])]
      have hRR2 : RowR 0 0 (sJ σ1 1669 P s (w * 4 + (y - 2)) (tot (dP d s y) z' (zJ ρ1 1962 0 0 ((60 * s + w) * 6 + y)) v)) c2 p2 s2 off W (sJ ρ1 1962 0 0 ((60 * s + w) * 6 + y) (tot (dP d s y) z' (zJ ρ1 1962 0 0 ((60 * s + w) * 6 + y)) v)) := by
        obtain ⟨⟨t, t1, t2, t3⟩, t4⟩ := hRR
        rcases hc2 with rfl | rfl
        · exact ⟨⟨t, t1, t2, t3⟩, t4⟩
        · exact ⟨⟨t, t1, t2, t3⟩, t4⟩
      obtain ⟨σ', ρ', u1, u2, u3⟩ := ih (y + 1) n m (upx X 14 0 (y + 1)) _ _ (by omega) (by omega) (by omega) (by omega) h5 h6 h7 rfl h9 (by exact e1) hRR2 (ER.col (x := tot (dP d s y) z' (zJ ρ1 1962 0 0 ((60 * s + w) * 6 + y)) v) hE hN (fun s hs => hW.w6 hs) hs h5 h2 hy h6 h7 h8 e1 hz2 h9 (fun q => by unfold tot; rw [if_pos q]))
      refine ⟨σ', ρ', u1, u2, ?_⟩
      have : upx (upx X 14 0 (y + 1)) 14 0 (dW d s) = upx X 14 0 (dW d s) := by
        funext a b
        show (if a = 14 ∧ b = 0 then _ else (if a = 14 ∧ b = 0 then _ else _)) = (if a = 14 ∧ b = 0 then _ else _)
        split <;> rfl
      rw [← this]; exact u3
    by_cases e23 : dP d s y = 23
    · have g1 : (nI (128 + dP d s y) : Int32) = 151 := by rw [e23]; rfl
      have g2 : (nI (dP d s y) : Int32) = 23 := by rw [e23]; rfl
      obtain ⟨σ', ρ', u1, u2, u3⟩ := fin 1 σ ρ h h11 h10 hcp h640 rfl rfl (fun _ => rfl)
      rw [if_pos e23] at u1
      refine ⟨σ', ρ', ?_, ?_, u3⟩
      · simp only [g1, ↓reduceIte]; exact u1
      · simp only [g2, ↓reduceIte] at u2 ⊢
        rcases hf with ⟨q, rfl⟩ | ⟨q, rfl⟩
        · have g3 : ¬ (nI 1 : Int32) = nI 0 := by decide
          simp only [g3, q, ↓reduceIte] at u2 ⊢
          exact u2
        · have g3 : ¬ z' = 1 := by omega
          simp only [g3, ↓reduceIte] at u2 ⊢
          simp only [b6, ↓reduceIte]
          exact u2
    · have g1 : ¬ (nI (128 + dP d s y) : Int32) = 151 := fun q => e23 (by
        have := (n_eq (a := 128 + dP d s y) (b := 151) (by omega) (by omega)).mp q
        omega)
      have g2 : ¬ (nI (dP d s y) : Int32) = 23 := fun q => e23 ((n_eq (a := dP d s y) (b := 23) (by omega) (by omega)).mp q)
      obtain ⟨a, c3, c4, c5, c6⟩ := hC.2.2.2.2.2.2.2.2.2.2.2.2 y (Or.inr (Or.inr ⟨hk7, h2, hy, e23⟩))
      obtain ⟨b, r3, r4, r5⟩ := hR.2.2.2.2.2.2.2.2.2.2.2.2.2 y (Or.inr ⟨hk7, h2, hy, e23⟩)
      obtain ⟨v, σ1, v2, ρ1, u1, u2, rfl, ⟨f1, rfl⟩, ⟨f2, rfl⟩⟩ := w2_ex (r_worth (n2 := n2) (by omega) (by rcases hc2 with rfl | rfl <;> decide) hn2 hoff hL (by rw [hWA]; exact hpo e23) c6 r5 c5 hl r4 h11 hz3)
      obtain ⟨σ', ρ', u3, u4, u5⟩ := fin v _ _ ((h.st (f := f1)).k56 (f := f2)) (by
        obtain ⟨⟨t, t1, t2, t3⟩, t4⟩ := h11
        rcases hc2 with rfl | rfl
        · exact ⟨⟨t, t1, t2, t3⟩, t4⟩
        · exact ⟨⟨t, t1, t2, t3⟩, t4⟩) h10 hcp h640 rfl rfl (fun q => absurd q e23)
      rw [if_neg e23] at u3
      refine ⟨σ', ρ', ?_, ?_, u5⟩
      · simp (disch := omega) only [g1, c3, c4, n_gi, n_cl, b4, ↓reduceIte]
        rw [bq_e u1]
        exact u3
      · simp (disch := omega) only [g2, r3, ↓reduceIte]
        rw [bq_e u2]
        rcases hf with ⟨q, rfl⟩ | ⟨q, rfl⟩
        · have g3 : ¬ (nI 1 : Int32) = nI 0 := by decide
          simp only [g3, q, ↓reduceIte] at u4 ⊢
          exact u4
        · have g3 : ¬ z' = 1 := by omega
          simp only [g3, ↓reduceIte] at u4 ⊢
          simp only [b6, ↓reduceIte]
          exact u4
end CO
