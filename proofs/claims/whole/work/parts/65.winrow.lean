/-! WINDOWS: the whole way of a row into a window step -/
/-- the row that a step looks at: the class's row 0, and where it stands in the law's data -/
def InR (d : Pd) (σ ρ : Zs) (a t off : Nat) : Prop := zI σ 384 0 0 0 = nI t ∧ zI σ 385 0 0 0 = nI (dW d a) ∧ t ≤ TB a ∧ off + 7 ≤ 16800 ∧ zJ ρ 1940 0 0 off = lN t ∧ ∀ c, c < dW d a → zJ σ 1410 0 0 c = zJ ρ 1940 0 0 (off + 1 + c)
def loadR (ρ : Zs) (c off : Nat) : Zs := jJ ρ 1957 0 0 (va_cpy (zJ ρ c 0 0) (zJ ρ 1957 0 0) off 0 7)
theorem load_R {ρ : Zs} {off : Nat} (h : off + 7 ≤ 16800) : fX14_load 1940 0 0 16800 (nI off) ρ = some ((), loadR ρ 1940 off) := by
  unfold fX14_load
  have b : 0 + 7 ≤ 7 := by omega
  simp (disch := omega) only [i_0, i_7, n_gcp, n_cl, h, b, and_self, ↓reduceIte, lt_k, sC_j]
  rfl
theorem load_L {ρ : Zs} : fX14_load 1919 0 0 7 0 ρ = some ((), loadR ρ 1919 0) := by
  unfold fX14_load
  have b : 0 + 7 ≤ 7 := by omega
  simp (disch := omega) only [i_0, i_7, n_gcp, n_cl, b, and_self, ↓reduceIte, lt_k, sC_j]
  rfl
theorem load_0 {ρ : Zs} {c off : Nat} : zJ (loadR ρ c off) 1957 0 0 0 = zJ ρ c 0 0 off := by
  unfold loadR
  rw [zJ_jJ, if_pos ⟨rfl, rfl, rfl⟩, pk_cpy_in (by omega) (by omega)]
  rfl
theorem load_i {ρ : Zs} {c off i : Nat} (h : i < 6) : zJ (loadR ρ c off) 1957 0 0 (1 + i) = zJ ρ c 0 0 (off + 1 + i) := by
  unfold loadR
  rw [zJ_jJ, if_pos ⟨rfl, rfl, rfl⟩, pk_cpy_in (by omega) (by omega)]
  congr 1
  omega
section WO
variable {P g : Nat} {d : Pd} {σ0 ρ0 : Zs} {τ : Prop} {X : Nat → Nat → Nat} {σ ρ : Zs} {s : Nat}
theorem InR.rw (hW : WFd d) {a t off : Nat} (ha : a < dN d) (h : InR d σ ρ a t off) : RW 0 0 t (dW d a) σ (loadR ρ 1940 off) := by
  obtain ⟨h1, h2, h3, h4, h5, h6⟩ := h
  refine ⟨h1, h2, by rw [load_0]; exact h5, fun i hi => ?_⟩
  rw [load_i (by have := hW.w6 ha; omega)]
  exact h6 i hi
theorem InR.rr {a t off : Nat} (h : InR d σ ρ a t off) (ha : TB a < 2147483648) : RowR 0 0 σ 1940 0 0 off (dW d a) ρ := ⟨⟨t, by have := h.2.2.1; omega, h.1, h.2.2.2.2.1⟩, h.2.2.2.2.2⟩
/-- the class's way, when it is known how early the row is -/
theorem ent_C {x2 : Int32} {n b t L : Nat} (hs : s < 12) (hz : zR σ 64 0 0 0 = (P, 0)) (hn : zI σ 455 P s 0 = nI n) (hn0 : 0 < n) (hn1 : n ≤ 1000) (ht : zI σ 384 0 0 0 = nI t) (ht2 : t < 1073739000) (hb : b = t / n * n) (hb2 : b ≤ t) (hw : zI σ 461 P s 0 = wmv (X 3 s)) (hX : X 3 s ≤ 1000001) (hL : zI σ 456 P s 0 = nI L) (hL2 : L ≤ 1000) :
    fX1_enterWindow (nI s) x2 σ = (if x2 = 0 then (if X 3 s ≤ b + n + L then (if X 3 s ≤ b + n then fX1_enterWindow_90 (nI s) x2 P s (nI (b + n)) 0 σ else fX1_enterWindow_90 (nI s) x2 P s (nI (b + n)) 1 σ) else bq (fX1_hold (nI s) (-1) 0 0 σ) fun _ z => some (0, z)) else (if X 3 s ≤ b + n then fX1_enterWindow_90 (nI s) x2 P s (nI (b + n)) 0 σ else fX1_enterWindow_90 (nI s) x2 P s (nI (b + n)) 1 σ)) := by
  unfold fX1_enterWindow
  have c1 : s < 12 := hs
  have eC : nI t - (nI t - nI t / nI n * nI n) + nI n = nI (b + n) := by rw [end_C (by omega) hn0 (by omega), hb]
  have c2 : (0 : Int32) < nI n := nI_lt (a := 0) (b := n) hn0 (by omega)
  have c3 : ¬ (nI n : Int32) = 0 := nI_ne0 hn0 (by omega)
  have c4 : wmv (X 3 s) < nI (b + n) + nI L ↔ X 3 s ≤ b + n + L := by rw [n_add, wm_lt (by omega) (by omega)]
  have c5 : wmv (X 3 s) < nI (b + n) ↔ X 3 s ≤ b + n := wm_lt (by omega) (by omega)
  simp (maxSteps := 1000000) (disch := omega) only [hz, hn, ht, hw, hL, n_gi, n_cl, c1, c2, c3, eC, c4, c5, not_false_eq_true, ↓reduceIte]
/-- .. and the law's -/
theorem wro_R {off n b t L : Nat} (hs : s < 12) (hz3 : zR ρ 898 0 0 0 = (g, 0)) (hoff : off + 7 ≤ 16800) (hn : zI ρ 1799 g 0 s = nI n) (hn0 : 0 < n) (hn1 : n ≤ 1000) (ht : zJ ρ 1940 0 0 off = lN t) (ht2 : t < 1073739000) (hb : b = t / n * n) (hb2 : b ≤ t) (hw : zI ρ 1942 0 0 s = wmv (X 3 s)) (hX : X 3 s ≤ 1000001) (hL : zI ρ 1800 g 0 s = nI L) (hL2 : L ≤ 1000) :
    fX14_windowRow (nI s) (nI off) ρ = (if X 3 s ≤ b + n then fX14_windowRow_97 (nI s) (nI off) 1 0 (nI b) (nI off) (nI s) ρ else if X 3 s ≤ b + n + L then fX14_windowRow_97 (nI s) (nI off) 0 1 (nI b) (nI off) (nI s) ρ else bq (fX14_load 1940 0 0 16800 (nI off) ρ) fun _ ρ23 => bq (fX14_hold (nI s) (-1) ρ23) fun _ z => some ((), z)) := by
  unfold fX14_windowRow fX14_beginOf
  have c1 : s < 12 := hs
  have c0 : off < 16800 := by omega
  have eB : (lN t / (nI n).toInt64 * (nI n).toInt64).toInt32 = nI b := by rw [beg_R (by omega) hn0 (by omega), hb]
  have c3 : ¬ (nI n).toInt64 = 0 := by rw [n_i64 (by omega)]; exact lN_ne0 hn0 (by omega)
  have c4 : nI b + nI n ≤ wmv (X 3 s) ↔ b + n + 1 ≤ X 3 s := by rw [n_add, wm_le (by omega) (by omega)]
  have c5 : wmv (X 3 s) < nI (b + n) + nI L ↔ X 3 s ≤ b + n + L := by rw [n_add, wm_lt (by omega) (by omega)]
  simp (maxSteps := 1000000) (disch := omega) only [hz3, hn, ht, hw, n_gi, n_cl, c0, c1, c3, eB, c4, not_false_eq_true, ↓reduceIte, bq_s, fX14_windowRow_40]
  by_cases e : X 3 s ≤ b + n
  · have e1 : ¬ b + n + 1 ≤ X 3 s := by omega
    have e2 : ¬ (1 : Int32) = 0 := by decide
    simp only [e, e1, e2, ↓reduceIte]
  · have e1 : b + n + 1 ≤ X 3 s := by omega
    simp (disch := omega) only [e, e1, n_gi, n_cl, c1, hz3, hw, hL, n_add, ↓reduceIte]
    rw [n_add] at c5
    simp only [c5]
theorem r_winrow {t off : Nat} (hB : EB P g d σ0 ρ0) (h : ER P d σ0 ρ0 τ X σ ρ) (hs : s < dN d) (hk7 : dK d s = 7) (h12 : X 12 0 = 0) (h9 : X 9 s < 1000000) (hin : InR d σ ρ (dA d s) t off) : ∃ v σ1, fX1_enterWindow (nI s) 0 σ = some (v, σ1) ∧ OutW P d σ0 ρ0 τ X s v σ1 (fX14_windowRow (nI s) (nI off) ρ) := by
  obtain ⟨hW, hPC, hPR, hz, hz3, hP⟩ := hB.fr h
  have hC := hPC.2.2.choose_spec.2.2.1 s hs
  have hR := hPR.2.2.1 s hs
  have hN := hW.n
  have w6 := hW.w6 hs
  have hAs : dA d s < s := hW.a hs (by rw [hk7]; decide)
  have hAn : dA d s < dN d := Nat.lt_trans hAs hs
  have hA6 := hW.w6 hAn
  obtain ⟨o1, o2, o3, hop⟩ := (hW.2.2.1 s hs).2.2.2.2.2.2.2.2.2.2.2.2.2 hk7
  have hS := (hW.2.2.1 s hs).2.2.2.1
  have hL := (hW.2.2.1 s hs).2.2.2.2.1
  have hTB : TB (dA d s) + 1000 ≤ TB s := by unfold TB; omega
  have hTB2 : TB s < 2000000 := by unfold TB; omega
  obtain ⟨sn1, sn2, sn3, _⟩ := h.2.2.2.2.1 s hs
  have h455 : zI σ 455 P s 0 = nI (dS d s) := hC.2.2.2.2.2.2.2.2.1 (Or.inr (by omega))
  have h1799 : zI ρ 1799 g 0 s = nI (dS d s) := hR.2.2.2.2.2.2.2.2.1 (Or.inr (by omega))
  have h456 : zI σ 456 P s 0 = nI (dL d s) := hC.2.2.2.2.2.2.2.2.2.1 hk7
  have h1800 : zI ρ 1800 g 0 s = nI (dL d s) := hR.2.2.2.2.2.2.2.2.2.1 hk7
  obtain ⟨b, hb⟩ : ∃ b, b = t / dS d s * dS d s := ⟨_, rfl⟩
  have hb2 : b ≤ t := by rw [hb]; exact Nat.div_mul_le_self _ _
  have ht := hin.2.2.1
  rw [ent_C (X := X) (by omega) hz h455 (by omega) hS hin.1 (by omega) hb hb2 sn1 sn3 h456 hL, wro_R (X := X) (by omega) hz3 hin.2.2.2.1 h1799 (by omega) hS hin.2.2.2.2.1 (by omega) hb hb2 sn2 sn3 h1800 hL, if_pos rfl]
  by_cases e : X 3 s ≤ b + dS d s
  · have e2 : X 3 s ≤ b + dS d s + dL d s := by omega
    rw [if_pos e, if_pos e2, if_pos e]
    rcases r_enter90 (x1 := nI s) (x2 := 0) (b := b) (cl := 0) (n2 := 16800) hB h hs hk7 h12 h9 (Or.inl rfl) (by decide) (by have := hin.2.2.2.1; omega) (hin.rr (by omega)) (by omega) (by decide) with ⟨u1, u2⟩ | ⟨w, σ', ρ', X', u1, u2, u3, u4, u5⟩
    · refine ⟨_, _, u1, X, XB.rf (by omega), Or.inl ⟨rfl, _, ?_, h.lost⟩⟩
      unfold fX14_windowRow_97
      rw [bq_e (by exact u2), if_pos (show (-nI 1 : Int32) = -1 from rfl), lt_k]
    · obtain ⟨σ1, ρ1, t1, q1, q2, q3, q4, q5, q6⟩ := r_wrow hB u3 hs hk7 u5.2.1 u4
      refine ⟨0, σ1, ?_, X', u5.b hk7 h12, Or.inl ⟨rfl, ρ', ?_, q3⟩⟩
      · refine u1.trans ?_
        unfold fX1_enterWindow_233
        rw [bq_e q1, if_pos (show (nI 0 : Int32) = 0 from rfl), if_pos rfl]
      · unfold fX14_windowRow_97
        rw [bq_e (by exact u2), if_neg (by have := u4; exact fun q => ((n_m1 (a := w) (by have := (u3.2.2.2.2.2.1 s hs).1; omega)).mp q).elim), if_neg (by decide)]
  · rw [if_neg e, if_neg e]
    by_cases e2 : X 3 s ≤ b + dS d s + dL d s
    · rw [if_pos e2, if_pos e2]
      rcases r_enter90 (x1 := nI s) (x2 := 0) (b := b) (cl := 1) (n2 := 16800) hB h hs hk7 h12 h9 (Or.inl rfl) (by decide) (by have := hin.2.2.2.1; omega) (hin.rr (by omega)) (by omega) (by decide) with ⟨u1, u2⟩ | ⟨w, σ', ρ', X', u1, u2, u3, u4, u5⟩
      · refine ⟨_, _, u1, X, XB.rf (by omega), Or.inl ⟨rfl, _, ?_, h.lost⟩⟩
        unfold fX14_windowRow_97
        rw [bq_e (by exact u2), if_pos (show (-nI 1 : Int32) = -1 from rfl), lt_k]
      · obtain ⟨σ1, ρ1, t1, q1, q2, q3, q4, q5, q6⟩ := r_wrow hB u3 hs hk7 u5.2.1 u4
        refine ⟨1, σ1, ?_, X', u5.b hk7 h12, Or.inr ⟨rfl, ρ1, t1, ?_, q4, q5, q6⟩⟩
        · refine u1.trans ?_
          unfold fX1_enterWindow_233
          rw [bq_e q1, if_neg (by decide)]
        · unfold fX14_windowRow_97
          rw [bq_e (by exact u2), if_neg (by have := u4; exact fun q => ((n_m1 (a := w) (by have := (u3.2.2.2.2.2.1 s hs).1; omega)).mp q).elim), if_pos rfl, q2]
          cases fX14_offer (nI s) ρ1 with
          | none => rfl
          | some r => rfl
    · rw [if_neg e2, if_neg e2, bq_e (load_R hin.2.2.2.1)]
      obtain ⟨σ', ρ', X', u1, u2, u3, u4, _⟩ := r_hold (x := -nI 1) hW (h.k57 (f := va_cpy (zJ ρ 1940 0 0) (zJ ρ 1957 0 0) off 0 7)) hs (hin.rw hW hAn) hA6 (by omega) (by decide) (Or.inl ⟨rfl, hk7, rfl, ht, by rw [← hb]; omega⟩)
      rw [bq_e (by exact u1), bq_e (by exact u2)]
      exact ⟨0, σ', rfl, X', (XB.rf (by omega)).o u4, Or.inl ⟨rfl, ρ', rfl, u3⟩⟩
end WO
