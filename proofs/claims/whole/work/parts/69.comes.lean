/-! STEPS: what comes of a row: keep, make, pick, merge, window -/
theorem ex1 {α : Type} {o : Option (α × Zs)} {v : α} {z : Zs} (h : o = some (v, z)) : ∃ y, y = z ∧ o = some (v, y) := ⟨z, rfl, h⟩
theorem zI_load {ρ : Zs} {c off : Nat} : zI (loadR ρ c off) = zI ρ := rfl
theorem zR_load {ρ : Zs} {c off : Nat} : zR (loadR ρ c off) = zR ρ := rfl
section CM
variable {P g : Nat} {d : Pd} {σ0 ρ0 : Zs} {τ : Prop} {X : Nat → Nat → Nat} {σ ρ : Zs} {s t off a : Nat} {pa sa : Nat} {x4 : Int32}
theorem TB_le {a b : Nat} (h : a ≤ b) : TB a ≤ TB b := by unfold TB; omega
/-- the copy of the row -/
theorem cp_row (h1 : zI σ 384 0 0 0 = nI t) {w : Nat} (h2 : zI σ 385 0 0 0 = nI w) : ∃ σ2, fX6_copyFrom 2 0 0 0 σ = some ((), σ2) ∧ ∃ f, σ2 = wRow σ 2 0 (nI t) (nI w) f ∧ ∀ i, i < 6 → f i = zJ σ 1410 0 0 i := by
  refine ⟨_, row_copy (by omega), _, by rw [h1, h2], fun i hi => ?_⟩
  rw [if_pos hi]
theorem RW.cp {W : Nat} {f : Nat → Int64} {ρ1 : Zs} (hW : W ≤ 6) (hf : ∀ i, i < 6 → f i = zJ σ 1410 0 0 i) (h : RW 0 0 t W σ ρ1) : RW 2 0 t W (wRow σ 2 0 (nI t) (nI W) f) ρ1 := by
  refine ⟨?_, ?_, h.2.2.1, fun i hi => ?_⟩
  · rw [zI_wRow, if_pos ⟨rfl, rfl, rfl, rfl⟩]
  · rw [zI_wRow, if_neg (by omega), if_pos ⟨rfl, rfl, rfl, rfl⟩]
  · rw [zJ_wRow, if_pos ⟨rfl, rfl, rfl⟩, hf i (by omega)]
    exact h.2.2.2 i hi
theorem c_merge (hB : EB P g d σ0 ρ0) (h : ER P d σ0 ρ0 τ X σ ρ) (hs : s < dN d) (hk : dK d s = 4) (ha : a = dA d s ∨ a = dB d s) (hin : InR d σ ρ a t off) : ∃ v σ1, fX1_comesOut (nI s) P s pa sa x4 σ = some (v, σ1) ∧ OutW P d σ0 ρ0 τ X s v σ1 (fX14_passOn (nI s) (nI off) ρ) := by
  obtain ⟨hW, hPC, hPR, hz, hz3, hP⟩ := hB.fr h
  have hC := hPC.2.2.choose_spec.2.2.1 s hs
  have hR := hPR.2.2.1 s hs
  have hN := hW.n
  have hA := hW.a hs (by omega)
  have hBs := (hW.2.2.1 s hs).2.2.2.2.2.2.1 (Or.inl hk)
  obtain ⟨m1, m2⟩ := (hW.2.2.1 s hs).2.2.2.2.2.2.2.2.2.2.1 hk
  have has : a < s := by omega
  have hw : dW d a = dW d s := by rcases ha with rfl | rfl <;> omega
  obtain ⟨σ2, e1, f, hσ2, hf⟩ := cp_row hin.1 hin.2.1
  have h449 := hC.2.1
  have h1794 := hR.2.1
  rw [hk] at h449 h1794
  have b0 : s < 12 := by omega
  refine ⟨1, σ2, ?_, X, XB.rf (by omega), Or.inr ⟨rfl, loadR ρ 1940 off, t, ?_, ?_, ?_, ?_⟩⟩
  · unfold fX1_comesOut
    have c1 : ¬ (nI 4 : Int32) = 1 := by decide
    have c2 : ¬ (nI 4 : Int32) = 2 := by decide
    have c3 : ¬ (nI 4 : Int32) = 3 := by decide
    have c4 : ((nI 4 : Int32) = 4) = True := eq_true (by decide)
    simp only [h449, c1, c2, c3, c4, ↓reduceIte]
    rw [bq_e e1]
  · unfold fX14_passOn
    have c1 : ¬ (nI 4 : Int32) = 1 := by decide
    have c2 : ¬ (nI 4 : Int32) = 2 := by decide
    have c3 : ¬ (nI 4 : Int32) = 3 := by decide
    have c4 : ((nI 4 : Int32) = 4) = True := eq_true (by decide)
    rw [if_pos ((n_gi (by omega)).mpr b0), bq_e (load_R hin.2.2.2.1)]
    simp (disch := omega) only [zI_load, zR_load, hz3, h1794, n_gi, n_cl, b0, c1, c2, c3, c4, i_12, ↓reduceIte]
  · rw [hσ2]; exact (h.r2).k57
  · rw [hσ2]
    have := RW.cp (f := f) (W := dW d a) (hW.w6 (by omega)) hf (hin.rw hW (by omega))
    rw [hw] at this
    rw [← hw] at this ⊢
    exact this
  · exact Nat.le_trans hin.2.2.1 (TB_le (by omega))
theorem c_keep (hB : EB P g d σ0 ρ0) (h : ER P d σ0 ρ0 τ X σ ρ) (hs : s < dN d) (hk : dK d s = 1) (hin : InR d σ ρ (dA d s) t off) : ∃ v σ1, fX1_comesOut (nI s) P s pa sa x4 σ = some (v, σ1) ∧ OutW P d σ0 ρ0 τ X s v σ1 (fX14_passOn (nI s) (nI off) ρ) := by
  obtain ⟨hW, hPC, hPR, hz, hz3, hP⟩ := hB.fr h
  obtain ⟨L, hL, hl, hPC, _⟩ := hPC.2.2
  have hC := hPC s hs
  have hR := hPR.2.2.1 s hs
  have hN := hW.n
  have hA := hW.a hs (by omega)
  obtain ⟨m1, m2⟩ := (hW.2.2.1 s hs).2.2.2.2.2.2.2.1 hk
  have hA6 := hW.w6 (Nat.lt_trans hA hs)
  obtain ⟨σ2, e1, f, hσ2, hf⟩ := cp_row hin.1 hin.2.1
  have h449 := hC.2.1
  have h1794 := hR.2.1
  rw [hk] at h449 h1794
  have b0 : s < 12 := by omega
  obtain ⟨q, c3, c4, c5, c6⟩ := hC.2.2.2.2.2.2.2.2.2.2.2.2 0 (Or.inl ⟨hk, rfl⟩)
  obtain ⟨b, r3, r4, r5⟩ := hR.2.2.2.2.2.2.2.2.2.2.2.2.1 hk
  have hrr := hin.rr (by unfold TB; omega)
  have hrow : RowR 0 0 σ2 1940 0 0 off (dW d (dA d s)) (loadR ρ 1940 off) := by rw [hσ2]; exact hrr
  have c6' : Cg P σ2 q (dO d s 0) := by rw [hσ2]; exact c6
  have hl' : zI σ2 326 P 0 0 = nI L := by rw [hσ2]; exact hl
  obtain ⟨v, σ3, v2, ρ3, u1, u2, rfl, ⟨f1, rfl⟩, ⟨f2, rfl⟩⟩ := w2_ex (r_worth (n2 := 16800) hA6 (by decide) (by decide) (by have := hin.2.2.2.1; omega) hL m2 c6' (by exact r5) c5 hl' r4 hrow hz3)
  have hE : ER P d σ0 ρ0 τ X (jJ σ2 1351 P 0 f1) (jJ (loadR ρ 1940 off) 1956 0 0 f2) := by rw [hσ2]; exact ((h.r2).st.k57).k56
  have d1 : (nI 1 : Int32) = 1 := rfl
  have g1 : zR σ2 64 0 0 0 = (P, 0) := by rw [hσ2]; exact hz
  have g2 : zI σ2 1481 P s 0 = nI q := by rw [hσ2]; exact c3
  have g3 : zI σ2 1482 P s 0 = nI (q + (dO d s 0).length) := by rw [hσ2]; exact c4
  have z6 : (0 : Nat) < 6 := by decide
  have hcls : fX1_comesOut (nI s) P s pa sa x4 σ = if lg_cmp v 0 = 0 then some (0, jJ σ2 1351 P 0 f1) else some (1, jJ σ2 1351 P 0 f1) := by
    unfold fX1_comesOut
    simp only [h449, d1, ↓reduceIte]
    rw [bq_e e1]
    simp (disch := omega) only [i_0, n_gi, n_cl, z6, g1, g2, g3, ↓reduceIte]
    rw [bq_e u1]
  have href : fX14_passOn (nI s) (nI off) ρ = if lg_cmp v 0 = 0 then some ((), jJ (loadR ρ 1940 off) 1956 0 0 f2) else bq (fX14_offer (nI s) (jJ (loadR ρ 1940 off) 1956 0 0 f2)) (fun _ z => some ((), z)) := by
    unfold fX14_passOn
    rw [if_pos ((n_gi (by omega)).mpr b0), bq_e (load_R hin.2.2.2.1)]
    simp (disch := omega) only [zI_load, zR_load, hz3, h1794, n_gi, n_cl, b0, d1, r3, i_12, ↓reduceIte]
    rw [bq_e u2]
  rw [hcls, href]
  by_cases e : lg_cmp v 0 = 0
  · rw [if_pos e]
    exact ⟨0, _, rfl, X, XB.rf (by omega), Or.inl ⟨rfl, _, by rw [if_pos e], hE⟩⟩
  · rw [if_neg e]
    refine ⟨1, _, rfl, X, XB.rf (by omega), Or.inr ⟨rfl, _, t, by rw [if_neg e], hE, ?_, Nat.le_trans hin.2.2.1 (TB_le (by omega))⟩⟩
    have := RW.cp (f := f) (W := dW d (dA d s)) hA6 hf (hin.rw hW (by omega))
    rw [m1, hσ2]
    exact this
theorem c_pick_l {W q : Nat} (hs : s < 12) (hq : q + 7 ≤ 16800) (hW6 : W ≤ 6) {A : Nat} (hA6 : A ≤ 6) : ∀ (k y n m : Nat) (σ ρ : Zs), y + k = W → k < n → k < m → zR σ 64 0 0 0 = (P, 0) → zR ρ 898 0 0 0 = (g, 0) → zI σ 450 P s 0 = nI W → zI ρ 1795 g 0 s = nI W → (∀ c, c < W → ∃ p, p < A ∧ zI σ 1483 P s c = nI p ∧ zI ρ 1803 g 0 (6 * s + c) = nI p) → (∀ i, i < A → zJ σ 1410 0 0 i = zJ ρ 1940 0 0 (q + 1 + i)) → RW 2 0 t y σ ρ →
    ∃ f f2, fX1_comesOut_186 (nI s) P s pa sa x4 n (nI y) σ = some (1, wRow σ 2 0 (nI t) (nI W) f) ∧ fX14_passOn_154 (nI s) (nI q) m (nI y) ρ = bq (fX14_offer (nI s) (jJ ρ 1957 0 0 f2)) (fun _ z => some ((), z)) ∧ RW 2 0 t W (wRow σ 2 0 (nI t) (nI W) f) (jJ ρ 1957 0 0 f2) := by
  intro k
  induction k with
  | zero =>
    intro y n m σ ρ h1 h2 h3 hz hz3 h4 h5 h6 h7 hR
    obtain ⟨n, rfl⟩ : ∃ j, n = j + 1 := ⟨n - 1, by omega⟩
    obtain ⟨m, rfl⟩ : ∃ j, m = j + 1 := ⟨m - 1, by omega⟩
    have e : y = W := by omega
    subst e
    have b : y ≤ y := Nat.le_refl _
    have hid : wRow σ 2 0 (nI t) (nI y) (zJ σ 1410 2 0) = σ := by
      refine (wRow_of (fun c p' s' i => ?_) (fun c p' s' i => ?_) (fun _ _ _ _ => rfl)).symm
      · split
        · rename_i q; obtain ⟨rfl, rfl, rfl, rfl⟩ := q; exact hR.1
        · split
          · rename_i q; obtain ⟨rfl, rfl, rfl, rfl⟩ := q; exact hR.2.1
          · rfl
      · split
        · rename_i q; obtain ⟨rfl, rfl, rfl⟩ := q; rfl
        · rfl
    refine ⟨zJ σ 1410 2 0, zJ ρ 1957 0 0, ?_, ?_, ?_⟩
    · rw [hid, fX1_comesOut_186]
      simp (disch := omega) only [h4, n_le, b, ↓reduceIte]
    · rw [jJ_self, fX14_passOn_154]
      simp (disch := omega) only [hz3, h5, i_12, n_gi, n_cl, n_le, hs, b, ↓reduceIte]
    · rw [hid, jJ_self]; exact hR
  | succ k ih =>
    intro y n m σ ρ h1 h2 h3 hz hz3 h4 h5 h6 h7 hR
    obtain ⟨n, rfl⟩ : ∃ j, n = j + 1 := ⟨n - 1, by omega⟩
    obtain ⟨m, rfl⟩ : ∃ j, m = j + 1 := ⟨m - 1, by omega⟩
    have b1 : ¬ W ≤ y := by omega
    have b2 : ¬ 6 ≤ y := by omega
    have b3 : y < 6 := by omega
    have b4 : 6 * s + y < 72 := by omega
    have b5 : 1 + y < 7 := by omega
    obtain ⟨p, p1, p2, p3⟩ := h6 y (by omega)
    have b6 : q + 1 + p < 16800 := by omega
    rw [fX1_comesOut_186, fX14_passOn_154]
    simp (disch := omega) only [hz3, h4, h5, i_1, i_6, i_12, n_gi, n_cl, n_le, n_mul, n_add, hs, b1, b2, b3, b4, b5, b6, p2, p3, ↓reduceIte, lt_k]
    rw [bq_e (row_num (by omega)), bq_e (row_app hR.2.1 (by omega)), hR.1]
    have hR2 : RW 2 0 t (y + 1) (wRow σ 2 0 (nI t) (nI (y + 1)) fun j => if j = y then zJ σ 1410 0 0 p else zJ σ 1410 2 0 j) (sJ ρ 1957 0 0 (1 + y) (zJ ρ 1940 0 0 (q + 1 + p))) := by
      refine ⟨?_, ?_, ?_, fun i hi => ?_⟩
      · rw [zI_wRow, if_pos ⟨rfl, rfl, rfl, rfl⟩]
      · rw [zI_wRow, if_neg (by omega), if_pos ⟨rfl, rfl, rfl, rfl⟩]
      · rw [zJ_sJ, if_neg (by omega)]; exact hR.2.2.1
      · rw [zJ_wRow, if_pos ⟨rfl, rfl, rfl⟩, zJ_sJ]
        by_cases e : i = y
        · subst e
          rw [if_pos rfl, if_pos ⟨rfl, rfl, rfl, rfl⟩]; exact h7 p p1
        · rw [if_neg e, if_neg (fun q => e (by omega))]; exact hR.2.2.2 i (by omega)
    obtain ⟨f, f2, u1, u2, u3⟩ := ih (y + 1) n m _ _ (by omega) (by omega) (by omega) (by exact hz) (by exact hz3) (by exact h4) (by exact h5) (by exact h6) (by exact h7) hR2
    refine ⟨f, f2, ?_, ?_, ?_⟩
    · rw [u1, wRow_w]; rfl
    · rw [u2, sJ_j, jJ_jJ]
    · rw [wRow_w, sJ_j, jJ_jJ] at u3; exact u3
theorem c_pick (hB : EB P g d σ0 ρ0) (h : ER P d σ0 ρ0 τ X σ ρ) (hs : s < dN d) (hk : dK d s = 3) (hin : InR d σ ρ (dA d s) t off) : ∃ v σ1, fX1_comesOut (nI s) P s pa sa x4 σ = some (v, σ1) ∧ OutW P d σ0 ρ0 τ X s v σ1 (fX14_passOn (nI s) (nI off) ρ) := by
  obtain ⟨hW, hPC, hPR, hz, hz3, hP⟩ := hB.fr h
  obtain ⟨L, hL, hl, hPC, _⟩ := hPC.2.2
  have hC := hPC s hs
  have hR := hPR.2.2.1 s hs
  have hN := hW.n
  have hA := hW.a hs (by omega)
  have m1 := (hW.2.2.1 s hs).2.2.2.2.2.2.2.2.2.1 hk
  have hA6 := hW.w6 (Nat.lt_trans hA hs)
  have w6 := hW.w6 hs
  have h449 := hC.2.1
  have h1794 := hR.2.1
  rw [hk] at h449 h1794
  have b0 : s < 12 := by omega
  have hst : fX6_startAt 2 0 (nI t) σ = some ((), wRow σ 2 0 (nI t) (nI 0) (zJ σ 1410 2 0)) := row_start
  have hR0 : RW 2 0 t 0 (wRow σ 2 0 (nI t) (nI 0) (zJ σ 1410 2 0)) (loadR ρ 1940 off) := by
    refine ⟨?_, ?_, ?_, fun i hi => absurd hi (Nat.not_lt_zero i)⟩
    · rw [zI_wRow, if_pos ⟨rfl, rfl, rfl, rfl⟩]
    · rw [zI_wRow, if_neg (by omega), if_pos ⟨rfl, rfl, rfl, rfl⟩]
    · rw [load_0]; exact hin.2.2.2.2.1
  have ff : dW d s < FU := by unfold FU; omega
  obtain ⟨f, f2, u1, u2, u3⟩ := c_pick_l (P := P) (g := g) (pa := pa) (sa := sa) (x4 := x4) (W := dW d s) (q := off) b0 hin.2.2.2.1 w6 (A := dW d (dA d s)) hA6 (dW d s) 0 FU FU (wRow σ 2 0 (nI t) (nI 0) (zJ σ 1410 2 0)) (loadR ρ 1940 off) (by omega) ff ff (by exact hz) (by exact hz3) (by exact hC.2.2.1) (by exact hR.2.2.1) (fun c hc => ⟨dP d s c, m1 c hc, hC.2.2.2.2.2.2.2.2.2.2.1 hk c hc, hR.2.2.2.2.2.2.2.2.2.2.1 hk c hc⟩) (by exact hin.2.2.2.2.2) hR0
  refine ⟨1, _, ?_, X, XB.rf (by omega), Or.inr ⟨rfl, _, t, ?_, ?_, u3, Nat.le_trans hin.2.2.1 (TB_le (by omega))⟩⟩
  · unfold fX1_comesOut
    have c1 : ¬ (nI 3 : Int32) = 1 := by decide
    have c2 : ¬ (nI 3 : Int32) = 2 := by decide
    have c3 : ((nI 3 : Int32) = 3) = True := eq_true (by decide)
    simp only [h449, c1, c2, c3, ↓reduceIte, hin.1]
    rw [bq_e hst]
    exact u1
  · unfold fX14_passOn
    have c1 : ¬ (nI 3 : Int32) = 1 := by decide
    have c2 : ¬ (nI 3 : Int32) = 2 := by decide
    have c3 : ((nI 3 : Int32) = 3) = True := eq_true (by decide)
    rw [if_pos ((n_gi (by omega)).mpr b0), bq_e (load_R hin.2.2.2.1)]
    simp (disch := omega) only [zI_load, zR_load, hz3, h1794, n_gi, n_cl, b0, c1, c2, c3, i_12, ↓reduceIte]
    exact u2
  · exact ((h.r2).k57.r2).k57
end CM
