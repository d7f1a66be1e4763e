/-! A PUSH -/
theorem wmv_i {k : Nat} (hk : k < 1073741824) : (wmv k).toInt = (k : Int) - 1 := by
  unfold wmv
  cases k with
  | zero => rfl
  | succ k => rw [n_p1 (by omega), nI_toInt (by omega)]; omega
theorem pmax_i (a b : Int32) : (p_max a b).toInt = max a.toInt b.toInt := by
  unfold p_max
  by_cases q : a < b
  · rw [if_pos q]
    rw [Int32.lt_iff_toInt_lt] at q
    omega
  · rw [if_neg q]
    rw [Int32.lt_iff_toInt_lt] at q
    omega
theorem wm_max {k t n : Nat} (hk : k < 1073741824) (ht : t < 1073741824 - 1) (hn : n < 1073741824) : p_max (wmv k) (nI t - nI n) = wmv (max k (t + 1 - n)) := by
  apply Int32.toInt_inj.mp
  rw [pmax_i, wmv_i hk, wmv_i (by omega), pk_sub_toInt (by omega) (by omega)]
  omega
theorem wm_max2 {k t n : Nat} (hk : k < 1073741824) (ht : t < 1073741824 - 1) (hn : n < 1073741824) : p_max (wmv k) (p_max (-nI 1) (nI t - nI n)) = wmv (max k (t + 1 - n)) := by
  apply Int32.toInt_inj.mp
  rw [pmax_i, pmax_i, wmv_i hk, wmv_i (by omega), pk_sub_toInt (by omega) (by omega), n_m1i]
  omega
/-- an entry of the log, on both sides -/
def EntP (σ ρ : Zs) (e t w : Nat) : Prop := zJ σ 129 0 e 0 = zJ ρ 1968 0 0 e ∧ t ≤ 1000000 ∧ zI σ 384 5 e 0 = nI t ∧ zI ρ 1966 0 0 e = nI t ∧ w ≤ 6 ∧ zI σ 385 5 e 0 = nI w ∧ zI ρ 1967 0 0 e = nI w ∧ ∀ c, c < w → zJ σ 1410 5 e c = zJ ρ 1969 0 0 (6 * e + c)
def Ent (σ ρ : Zs) (e : Nat) : Prop := ∃ k, k ≤ 3 ∧ zI σ 128 0 e 0 = nI k ∧ zI ρ 1965 0 0 e = nI k ∧ (k = 0 → ∃ t w, EntP σ ρ e t w) ∧ (k = 1 ∨ k = 2 → ∃ a, a < 60 ∧ zI σ 131 0 e 0 = nI a ∧ zI ρ 1966 0 0 e = nI a)
section PU
variable {P g : Nat} {d : Pd} {σ0 ρ0 : Zs} {τ : Prop} {X : Nat → Nat → Nat} {σ ρ : Zs} {s e t w E : Nat}
theorem ER.tk (h : ER P d σ0 ρ0 τ X σ ρ) : ER P d σ0 ρ0 True X (sI σ 70 0 0 0 (nI 0)) (sI ρ 930 0 0 0 (nI 0)) := ⟨fun _ => rfl, h.2.1.I (by simp [wC]), h.2.2.1.I (by decide), h.2.2.2⟩
theorem ER.wk (h : ER P d σ0 ρ0 τ X σ ρ) {τ' : Prop} (q : τ' → τ) : ER P d σ0 ρ0 τ' X σ ρ := ⟨fun z => h.1 (q z), h.2⟩
theorem ER.psh (h : ER P d σ0 ρ0 τ X σ ρ) {x y : Int32} (hx : x = zI σ 69 0 0 0 + nI 1) (hy : y = zI ρ 931 0 0 0 + nI 1) : ER P d σ0 ρ0 τ X (sI σ 69 0 0 0 x) (sI ρ 931 0 0 0 y) := by
  refine ⟨h.1, h.2.1.I (by simp [wC]), h.2.2.1.I (by decide), h.2.2.2.1, h.2.2.2.2.1, h.2.2.2.2.2.1, h.2.2.2.2.2.2.1, h.2.2.2.2.2.2.2.1, ?_, h.2.2.2.2.2.2.2.2.2⟩
  obtain ⟨h1, h2, h3⟩ := h.2.2.2.2.2.2.2.2.1
  refine ⟨h1, h2, ?_⟩
  show x = y
  rw [hx, hy, h3]
theorem ER.pushed {f : Nat → Int64} {v : Nat} (h : ER P d σ0 ρ0 τ X σ ρ) (h1 : X 3 s ≤ v) (h2 : v ≤ 1000001) : ER P d σ0 ρ0 True (upx X 3 s v) (sI (sI (sI σ 70 0 0 0 (nI 0)) 69 0 0 0 (zI σ 69 0 0 0 + nI 1)) 461 P s 0 (wmv v)) (sI (sI (sI (jJ ρ 1957 0 0 f) 930 0 0 0 (nI 0)) 931 0 0 0 (zI ρ 931 0 0 0 + nI 1)) 1942 0 0 s (wmv v)) := by
  have hx : zI σ 69 0 0 0 + nI 1 = zI (sI σ 70 0 0 0 (nI 0)) 69 0 0 0 + nI 1 := congrArg (fun v => v + nI 1) (by rw [zI_sI, if_neg (by decide)])
  have hy : zI ρ 931 0 0 0 + nI 1 = zI (sI (jJ ρ 1957 0 0 f) 930 0 0 0 (nI 0)) 931 0 0 0 + nI 1 := congrArg (fun v => v + nI 1) (by rw [zI_sI, if_neg (by decide), zI_jJ])
  exact ((h.k57 (f := f)).tk.psh hx hy).wm h1 h2
theorem Good.mono {X' : Nat → Nat → Nat} (h : Good d E X) (h12 : X' 12 0 = X 12 0) (hk : ∀ k i, k = 1 ∨ k = 2 ∨ k = 7 ∨ k = 8 ∨ k = 9 ∨ k = 11 → X' k i = X k i) (h0 : ∀ i, X 0 i ≤ X' 0 i) (h3 : ∀ i, X 3 i ≤ X' 3 i) (h3e : ∀ i, i < dN d → dK d i ≠ 0 → X' 3 i = X 3 i) : Good d E X' := by
  refine ⟨h12.trans h.1, fun s hs hk0 => ?_⟩
  obtain ⟨r1, r2, r3, r4, r5, r6, r7, r8, r9⟩ := h.2 s hs hk0
  unfold Rdy
  rw [hk 1 s (by omega), hk 2 s (by omega), hk 7 s (by omega), hk 8 s (by omega), hk 9 s (by omega), hk 11 s (by omega), h3e s hs hk0]
  exact ⟨r1, r2, Nat.le_trans r3 (h0 _), fun q => Nat.le_trans (r4 q) (h0 _), r5, r6, Nat.le_trans r7 (h3 _), fun q => Nat.le_trans (r8 q) (h3 _), r9⟩
theorem Good.up {E' : Nat} (h : Good d E X) (hE : E ≤ E') : Good d E' X := by
  refine ⟨h.1, fun s hs hk0 => ?_⟩
  obtain ⟨r1, r2, r3, r4, r5, r6, r7, r8, r9⟩ := h.2 s hs hk0
  exact ⟨r1, r2, r3, r4, r5, by omega, r7, r8, r9⟩
theorem push_row {W : Nat} (hs : s < 12) (he : e < 200) (hz3 : zR ρ 898 0 0 0 = (g, 0)) (h1795 : zI ρ 1795 g 0 s = nI W) (hW : W ≤ 6) {x2 : Int32} : ∀ (k y n : Nat) (ρ : Zs), y + k = 6 → k < n → zR ρ 898 0 0 0 = (g, 0) → zI ρ 1795 g 0 s = nI W →
    ∃ m f, fX14_doPush_11 (nI s) x2 (nI (6 * e)) n (nI y) ρ = fX14_doPush_11 (nI s) x2 (nI (6 * e)) (m + 1) (nI 6) (jJ ρ 1957 0 0 f) ∧ f 0 = zJ ρ 1957 0 0 0 ∧ (∀ c, c < y → f (1 + c) = zJ ρ 1957 0 0 (1 + c)) ∧ ∀ c, y ≤ c → c < W → f (1 + c) = zJ ρ 1969 0 0 (6 * e + c) := by
  intro k
  induction k with
  | zero =>
    intro y n ρ h1 h2 h3 h4
    obtain ⟨n, rfl⟩ : ∃ j, n = j + 1 := ⟨n - 1, by omega⟩
    have ey : y = 6 := by omega
    subst ey
    refine ⟨n, zJ ρ 1957 0 0, by rw [jJ_self], rfl, fun _ _ => rfl, fun c c1 c2 => by omega⟩
  | succ k ih =>
    intro y n ρ h1 h2 h3 h4
    obtain ⟨n, rfl⟩ : ∃ j, n = j + 1 := ⟨n - 1, by omega⟩
    have b1 : ¬ 6 ≤ y := by omega
    have b2 : 1 + y < 7 := by omega
    have b3 : 6 * e + y < 1200 := by omega
    rw [fX14_doPush_11]
    by_cases q : W ≤ y
    · simp (disch := omega) only [h3, h4, i_1, i_6, i_12, n_add, n_le, n_gi, n_cl, hs, b1, b2, q, ↓reduceIte, lt_k]
      obtain ⟨m, f, u1, u2, u3, u4⟩ := ih (y + 1) n (sJ ρ 1957 0 0 (1 + y) 0) (by omega) (by omega) (by exact h3) (by exact h4)
      refine ⟨m, f, ?_, ?_, fun c hc => ?_, fun c c1 c2 => by omega⟩
      · rw [u1, sJ_j, jJ_jJ]
      · rw [u2, zJ_sJ, if_neg (by omega)]
      · rw [u3 c (by omega), zJ_sJ, if_neg (by omega)]
    · simp (disch := omega) only [h3, h4, i_1, i_6, i_12, n_add, n_le, n_gi, n_cl, hs, b1, b2, b3, q, ↓reduceIte, lt_k]
      obtain ⟨m, f, u1, u2, u3, u4⟩ := ih (y + 1) n (sJ ρ 1957 0 0 (1 + y) (zJ ρ 1969 0 0 (6 * e + y))) (by omega) (by omega) (by exact h3) (by exact h4)
      refine ⟨m, f, ?_, ?_, fun c hc => ?_, fun c c1 c2 => ?_⟩
      · rw [u1, sJ_j, jJ_jJ]
      · rw [u2, zJ_sJ, if_neg (by omega)]
      · rw [u3 c (by omega), zJ_sJ, if_neg (by omega)]
      · by_cases ec : c = y
        · subst ec
          rw [u3 c (by omega), zJ_sJ, if_pos ⟨rfl, rfl, rfl, rfl⟩]
        · rw [u4 c (by omega) c2]
          rfl
theorem r_push (hB : EB P g d σ0 ρ0) (h : ER P d σ0 ρ0 τ X σ ρ) (hG : Good d E X) (hE : E ≤ 1000) (hs : s < dN d) (hk : dK d s = 0) (he : e < 200) (hn : fX5_streamNamed P (zJ σ 129 0 e 0) (sI σ 70 0 0 0 (nI 0)) = some (nI s, sI σ 70 0 0 0 (nI 0))) (hst : zI σ 68 0 0 0 = nI 0) (hr : EntP σ ρ e t (dW d s)) :
    ∃ σ2 σ' ρ' X', fX1_doPush e (sI σ 70 0 0 0 (nI 0)) = some (1, σ2) ∧ fX1_runSteps σ2 = some ((), σ') ∧ fX14_doPush (nI s) (nI t) (nI (6 * e)) ρ = some (zI ρ' 930 0 0 0, ρ') ∧ ER P d σ0 ρ0 True X' σ' ρ' ∧ Good d E X' ∧ Setl d X' := by
  obtain ⟨hW, hPC, hPR, hz, hz3, hP⟩ := hB.fr h
  have hC := hPC.2.2.choose_spec.2.2.1 s hs
  have hR := hPR.2.2.1 s hs
  have hN := hW.n
  have h449 := hC.2.1
  have h450 := hC.2.2.1
  have h455 : zI σ 455 P s 0 = nI (dS d s) := hC.2.2.2.2.2.2.2.2.1 (Or.inl hk)
  have h1799 : zI ρ 1799 g 0 s = nI (dS d s) := hR.2.2.2.2.2.2.2.2.1 (Or.inl hk)
  have h1795 := hR.2.2.1
  obtain ⟨_, _, hw6, hS, _⟩ := hW.2.2.1 s hs
  obtain ⟨q1, q2, q3, q4, q5, q6, q7, q8⟩ := hr
  obtain ⟨sn1, sn2, sn3, _⟩ := h.2.2.2.2.1 s hs
  have b0 : s < 12 := by omega
  have hv3 : X 3 s ≤ max (X 3 s) (t + 1 - dS d s) := Nat.le_max_left _ _
  have hv4 : max (X 3 s) (t + 1 - dS d s) ≤ 1000001 := Nat.max_le.mpr ⟨sn3, by omega⟩
  obtain ⟨σ1, hσ1⟩ : ∃ z, z = sI (sI (sI σ 70 0 0 0 (nI 0)) 69 0 0 0 (zI σ 69 0 0 0 + nI 1)) 461 P s 0 (wmv (max (X 3 s) (t + 1 - dS d s))) := ⟨_, rfl⟩
  -- the law's row
  obtain ⟨m, f, u1, u2, _, u4⟩ := push_row (g := g) (W := dW d s) (x2 := nI t) b0 he hz3 h1795 hw6 6 0 FU (sJ ρ 1957 0 0 0 (lN t)) (by omega) (by unfold FU; omega) (by exact hz3) (by exact h1795)
  have hu2 : f 0 = lN t := by rw [u2, zJ_sJ, if_pos ⟨rfl, rfl, rfl, rfl⟩]
  have hk0 : jJ (sJ ρ 1957 0 0 0 (lN t)) 1957 0 0 f = jJ ρ 1957 0 0 f := by rw [sJ_j, jJ_jJ]
  obtain ⟨ρ1, hρ1⟩ : ∃ z, z = sI (sI (sI (jJ ρ 1957 0 0 f) 930 0 0 0 (nI 0)) 931 0 0 0 (zI ρ 931 0 0 0 + nI 1)) 1942 0 0 s (wmv (max (X 3 s) (t + 1 - dS d s))) := ⟨_, rfl⟩
  have hE3 : ER P d σ0 ρ0 True (upx X 3 s (max (X 3 s) (t + 1 - dS d s))) σ1 ρ1 := by
    rw [hσ1, hρ1]
    exact h.pushed hv3 hv4
  have hRW : RW 5 e t (dW d s) σ1 ρ1 := by
    refine ⟨?_, ?_, ?_, fun i hi => ?_⟩
    · rw [hσ1]; exact q3
    · rw [hσ1]; exact q6
    · rw [hρ1]
      show zJ (jJ ρ 1957 0 0 f) 1957 0 0 0 = _
      rw [zJ_jJ, if_pos ⟨rfl, rfl, rfl⟩, hu2]
    · rw [hσ1, hρ1]
      show zJ σ 1410 5 e i = zJ (jJ ρ 1957 0 0 f) 1957 0 0 (1 + i)
      rw [zJ_jJ, if_pos ⟨rfl, rfl, rfl⟩, u4 i (Nat.zero_le _) hi]
      exact q8 i hi
  have htT : t ≤ TB s := by unfold TB; omega
  obtain ⟨σ2, ρ2, X2, g1, g2, g3, g4, _⟩ := r_giveK hB hE3 hs hRW htT (Or.inr (Or.inr rfl))
  have hG2 : Good d E X2 := by
    refine hG.mono ((g4.e (by decide) (by decide)).trans (upx_n (by omega))) (fun k i q => (g4.e (by omega) (by omega)).trans (upx_n (by omega))) (fun i => ?_) (fun i => ?_) (fun i hi hki => (g4.e (by decide) (by decide)).trans (upx_n (fun z => hki (by rw [z.2]; exact hk))))
    · have := g4.m (a := i)
      rw [upx_n (by omega)] at this; exact this
    · rw [g4.e (by decide) (by decide)]
      by_cases q : i = s
      · rw [q, upx_p]; exact hv3
      · rw [upx_n (by omega)]; exact Nat.le_refl _
  obtain ⟨_, σ', _, ρ', v1, v2, X', v3, v4, v5⟩ := w2_ex (r_steps hB g3 hE hG2)
  refine ⟨σ2, σ', ρ', X', ?_, v1, ?_, v3, v4, v5⟩
  · unfold fX1_doPush
    have z70 : ∀ v, zR (sI σ 70 0 0 0 v) 64 0 0 0 = (P, 0) := fun _ => hz
    have j129 : ∀ v, zJ (sI σ 70 0 0 0 v) 129 0 e 0 = zJ σ 129 0 e 0 := fun _ => rfl
    rw [z70, j129, bq_e hn]
    have c68 : zI (sI σ 70 0 0 0 (nI 0)) 68 0 0 0 = 0 := hst
    have c449 : zI (sI σ 70 0 0 0 (nI 0)) 449 P s 0 = nI 0 := h449.trans (congrArg nI hk)
    have c450 : zI (sI σ 70 0 0 0 (nI 0)) 450 P s 0 = nI (dW d s) := h450
    have c385 : zI (sI σ 70 0 0 0 (nI 0)) 385 5 e 0 = nI (dW d s) := q6
    have c69 : zI (sI σ 70 0 0 0 (nI 0)) 69 0 0 0 = zI σ 69 0 0 0 := rfl
    have c461 : ∀ v, zI (sI (sI σ 70 0 0 0 (nI 0)) 69 0 0 0 v) 461 P s 0 = wmv (X 3 s) := fun _ => sn1
    have c384 : ∀ v, zI (sI (sI σ 70 0 0 0 (nI 0)) 69 0 0 0 v) 384 5 e 0 = nI t := fun _ => q3
    have c455 : ∀ v, zI (sI (sI σ 70 0 0 0 (nI 0)) 69 0 0 0 v) 455 P s 0 = nI (dS d s) := fun _ => h455
    rw [if_pos c68]
    have b7 : 0 ≤ s := Nat.zero_le _
    simp (disch := omega) only [z70, i_0, i_1, n_le, n_gi, n_cl, b0, b7, c449, c450, c385, c69, c461, c384, c455, ↓reduceIte, lt_k]
    rw [wm_max (by omega) (by omega) (by omega), ← hσ1, bq_e g1]
  · unfold fX14_doPush
    have b7 : 0 < 7 := by omega
    simp (disch := omega) only [i_0, n_gi, n_cl, n_i64, b7, ↓reduceIte, lt_k]
    rw [u1, hk0, fX14_doPush_11]
    have b6 : 6 ≤ 6 := Nat.le_refl _
    have c931 : zI (sI (jJ ρ 1957 0 0 f) 930 0 0 0 (nI 0)) 931 0 0 0 = zI ρ 931 0 0 0 := rfl
    have c1942 : ∀ v, zI (sI (sI (jJ ρ 1957 0 0 f) 930 0 0 0 (nI 0)) 931 0 0 0 v) 1942 0 0 s = wmv (X 3 s) := fun _ => sn2
    have c898 : ∀ v, zR (sI (sI (jJ ρ 1957 0 0 f) 930 0 0 0 (nI 0)) 931 0 0 0 v) 898 0 0 0 = (g, 0) := fun _ => hz3
    have c1799 : ∀ v, zI (sI (sI (jJ ρ 1957 0 0 f) 930 0 0 0 (nI 0)) 931 0 0 0 v) 1799 g 0 s = nI (dS d s) := fun _ => h1799
    simp (disch := omega) only [i_0, i_1, i_6, i_12, n_le, n_gi, n_cl, b0, b6, c931, c1942, c898, c1799, ↓reduceIte, lt_k]
    rw [wm_max2 (by omega) (by omega) (by omega), ← hρ1, bq_e g2, bq_e v2]
end PU
