/-! THE CALLS THAT ASK -/
/-- both answer alike, and stand to one another as before -/
def Fc (B : Nat) {α : Type} (Ls : List String) (o : Option (Except String α × Zs)) (r : Option (α × Zs)) : Prop := ∃ v σ' w ρ', o = some (v, σ') ∧ r = some (w, ρ') ∧ Ans Ls v w (zI ρ' 896 0 0 0) ∧ Rel B σ' ρ'
def Fp (B : Nat) {α : Type} (o : Option (α × Zs)) (r : Option (α × Zs)) : Prop := ∃ v σ' ρ', o = some (v, σ') ∧ r = some (v, ρ') ∧ Rel B σ' ρ'
theorem bx_e {α β : Type} {o : Option (Except String α × Zs)} {w : α} {z : Zs} {k : α → Zs → Option (Except String β × Zs)} (h : o = some (.ok w, z)) : bx o k = k w z := by rw [h]; rfl
theorem bx_x {α β : Type} {o : Option (Except String α × Zs)} {E : String} {z : Zs} {k : α → Zs → Option (Except String β × Zs)} (h : o = some (.error E, z)) : bx o k = some (.error E, z) := by rw [h]; rfl
theorem if10 {α : Type} {a b : α} : (if (1 : Int32) = 0 then a else b) = b := if_neg (by decide)
theorem if00 {α : Type} {a b : α} : (if (0 : Int32) = 0 then a else b) = a := if_pos rfl
theorem fail_R {n : Int32} {ρ : Zs} : fX14_fail n ρ = some (0, sI ρ 896 0 0 0 n) := rfl
theorem out_ne {N j : Nat} {x : Int32} (hN : N < 2147483648) (h : x < 0 ∨ ∃ a, a < 2147483648 ∧ N ≤ a ∧ x = nI a) (hj : j < N) : ¬ x = nI j := by
  rcases h with q | ⟨a, ha, h2, rfl⟩
  · intro e
    rw [e, i_0, n_lt (by omega) (by omega)] at q
    omega
  · rw [n_eq (by omega) (by omega)]; omega
section FA
variable {B P Q S g L N : Nat} {d : Pd} {X : Nat → Nat → Nat} {σ ρ : Zs} {α : Type}
theorem Rl.no {Ls : List String} {o : Option (Except String α × Zs)} {r : Option (α × Zs)} {E : String} {n : Int32} {w : α} (h : Rl B P Q S g L d X σ ρ) (ho : o = some (.error E, σ)) (hr : r = some (w, sI ρ 896 0 0 0 n)) (hE : E ∈ Ls) (hn : n = codL Ls 1 E) : Fc B Ls o r :=
  ⟨_, _, _, _, ho, hr, ⟨hE, hn⟩, h.thr.rel⟩
theorem Rl.yes {Ls : List String} {o : Option (Except String α × Zs)} {r : Option (α × Zs)} {a : α} (h : Rl B P Q S g L d X σ ρ) (ho : o = some (.ok a, σ)) (hr : r = some (a, ρ)) (h0 : zI ρ 896 0 0 0 = 0) : Fc B Ls o r :=
  ⟨_, _, _, _, ho, hr, ⟨h0, rfl⟩, h.rel⟩
theorem Rl.t0 : zI (sI ρ 896 0 0 0 0) 896 0 0 0 = 0 := rfl
theorem f_count (h : Rl B P Q S g L d X σ ρ) (x : Int32) : Fc B ["java/lang/IndexOutOfBoundsException"] (fX11_count x σ) (fX14_count x ρ) := by
  have h1 := h.thr (v := 0)
  obtain ⟨hp, ⟨hW, hPC, hPR, hz, hz3, hP⟩, hE, hG, hF, hNm, hRB⟩ := h
  have e5 : (5 : Int64) = ((nI 6 - 1 : Int32).toInt64) := by decide
  have e1 : (zR σ 707 0 0 0).1 = P := by rw [hRB.1.1]
  have e2 : (zR (sI ρ 896 0 0 0 0) 898 0 0 0).1 = g := by show (zR ρ 898 0 0 0).1 = g; rw [hz3]
  unfold fX11_count fX14_count
  rw [lt_k, e5, e1]
  obtain ⟨hL, hM, _, hT, _⟩ := hRB.2
  obtain ⟨K, m, m1, m2, m3, _⟩ := hM
  obtain ⟨T, f, t1, t2, t3, _⟩ := hT
  obtain ⟨_, x2, x3, _⟩ := hE.2.2.2.2.2.2.1
  rcases isIn_x (x := x) (N := 6) (by decide) with ⟨a, ha, rfl, k⟩ | ⟨q, k⟩
  · rw [bq_e (k _), if10]
    unfold fX14_counted
    rw [e2]
    have hd : ∀ i j : Nat, i < 6 → j < 6 → i ≠ j → ¬ (nI i : Int32) = nI j := fun i j hi hj hij q => hij ((n_eq (by omega) (by omega)).mp q)
    have ha' : a = 0 ∨ a = 1 ∨ a = 2 ∨ a = 3 ∨ a = 4 ∨ a = 5 := by omega
    rcases ha' with rfl | rfl | rfl | rfl | rfl | rfl
    · refine h1.yes (a := zI σ 321 P 0 0) ?_ ?_ rfl
      · rw [if_pos (by decide)]
      · rw [if_pos (by decide), bq_s]
        exact congrArg (fun v => some (v, _)) (hPR.1.trans hPC.1.symm)
    · refine h1.yes (a := zI σ 323 P 0 0) ?_ ?_ rfl
      · rw [if_neg (by decide), if_pos (by decide)]
      · rw [if_neg (by decide), if_pos (by decide), bq_s]
        exact congrArg (fun v => some (v, _)) (hPR.2.1.trans hPC.2.1.symm)
    · refine h1.yes (a := zI σ 705 0 0 0) ?_ ?_ rfl
      · rw [if_neg (by decide), if_neg (by decide), if_pos (by decide)]
      · rw [if_neg (by decide), if_neg (by decide), if_pos (by decide), bq_s]
        exact congrArg (fun v => some (v, _)) (t3.trans t2.symm)
    · refine h1.yes (a := zI σ 716 0 0 0) ?_ ?_ rfl
      · rw [if_neg (by decide), if_neg (by decide), if_neg (by decide), if_pos (by decide)]
      · rw [if_neg (by decide), if_neg (by decide), if_neg (by decide), if_pos (by decide), bq_s]
        exact congrArg (fun v => some (v, _)) (hL.2.2.1.trans hL.2.1.symm)
    · refine h1.yes (a := zI σ 718 0 0 0) ?_ ?_ rfl
      · rw [if_neg (by decide), if_neg (by decide), if_neg (by decide), if_neg (by decide), if_pos (by decide)]
      · rw [if_neg (by decide), if_neg (by decide), if_neg (by decide), if_neg (by decide), if_pos (by decide), bq_s]
        exact congrArg (fun v => some (v, _)) (m3.trans m2.symm)
    · refine h1.yes (a := zI σ 66 0 0 0) ?_ ?_ rfl
      · rw [if_neg (by decide), if_neg (by decide), if_neg (by decide), if_neg (by decide), if_neg (by decide), if_pos (by decide)]
      · rw [if_neg (by decide), if_neg (by decide), if_neg (by decide), if_neg (by decide), if_neg (by decide), bq_s]
        exact congrArg (fun v => some (v, _)) (x3.trans x2.symm)
  · rw [bq_e (k _), if00, fail_R, bq_s]
    rw [if_neg (show ¬ x = 0 from out_ne (j := 0) (by decide) q (by decide)), if_neg (show ¬ x = 1 from out_ne (j := 1) (by decide) q (by decide)), if_neg (show ¬ x = 2 from out_ne (j := 2) (by decide) q (by decide)), if_neg (show ¬ x = 3 from out_ne (j := 3) (by decide) q (by decide)), if_neg (show ¬ x = 4 from out_ne (j := 4) (by decide) q (by decide)), if_neg (show ¬ x = 5 from out_ne (j := 5) (by decide) q (by decide))]
    exact h1.no rfl rfl (List.mem_singleton.mpr rfl) rfl
theorem f_stream (h : Rl B P Q S g L d X σ ρ) (x y : Int32) : Fc B ["java/lang/IndexOutOfBoundsException"] (fX11_stream x y σ) (fX14_stream x y ρ) := by
  have h1 := h.thr (v := 0)
  obtain ⟨hp, ⟨hW, hPC, hPR, hz, hz3, hP⟩, hE, hG, hF, hNm, hRB⟩ := h
  have e5 : (3 : Int64) = ((nI 4 - 1 : Int32).toInt64) := by decide
  have e2 : (zR (sI ρ 896 0 0 0 0) 898 0 0 0).1 = g := by show (zR ρ 898 0 0 0).1 = g; rw [hz3]
  have hN := hW.1
  unfold fX11_stream fX14_stream
  rw [lt_k, e5]
  rcases h1.at x with ⟨s, hs, rfl, k1, k2⟩ | ⟨k1, k2⟩
  · rw [bx_e k1, bq_e k2, if10]
    have hCs := hPC.2.2.choose_spec.2.2.1 s hs
    have hRs := hPR.2.2.1 s hs
    have b2 : s < 12 := by omega
    rcases isIn_x (x := y) (N := 4) (by decide) with ⟨a, ha, rfl, k⟩ | ⟨q, k⟩
    · rw [bq_e (k _), if10]
      have ha' : a = 0 ∨ a = 1 ∨ a = 2 ∨ a = 3 := by omega
      have g2 : gi (nI s) 12 := (n_gi (by omega)).mpr b2
      rw [e2]
      rcases ha' with rfl | rfl | rfl | rfl
      · refine h1.yes (a := zI σ 449 P s 0) ?_ ?_ rfl
        · rw [if_pos (by decide)]
        · rw [if_pos (by decide), if_pos g2, n_cl (a := s) (by omega)]
          exact congrArg (fun v => some (v, _)) (hRs.2.1.trans hCs.2.1.symm)
      · refine h1.yes (a := zI σ 450 P s 0) ?_ ?_ rfl
        · rw [if_neg (by decide), if_pos (by decide)]
        · rw [if_neg (by decide), if_pos (by decide), if_pos g2, n_cl (a := s) (by omega)]
          exact congrArg (fun v => some (v, _)) (hRs.2.2.1.trans hCs.2.2.1.symm)
      · refine h1.yes (a := zI σ 1476 P s 0) ?_ ?_ rfl
        · rw [if_neg (by decide), if_neg (by decide), if_pos (by decide), if_pos (by decide)]
          rfl
        · rw [if_neg (by decide), if_neg (by decide), if_pos (by decide), if_pos g2, n_cl (a := s) (by omega)]
          exact congrArg (fun v => some (v, _)) (hRs.2.2.2.2.1.trans hCs.2.2.2.2.1.symm)
      · refine h1.yes (a := zI σ 1476 P s 1) ?_ ?_ rfl
        · rw [if_neg (by decide), if_neg (by decide), if_neg (by decide), if_pos (by decide), if_pos (by decide)]
          rfl
        · rw [if_neg (by decide), if_neg (by decide), if_neg (by decide), if_pos g2, n_cl (a := s) (by omega)]
          exact congrArg (fun v => some (v, _)) (hRs.2.2.2.2.2.1.trans hCs.2.2.2.2.2.1.symm)
    · rw [bq_e (k _), if00, fail_R, bq_s]
      rw [if_neg (show ¬ y = 0 from out_ne (j := 0) (by decide) q (by decide)), if_neg (show ¬ y = 1 from out_ne (j := 1) (by decide) q (by decide)), if_neg (show ¬ y = 2 from out_ne (j := 2) (by decide) q (by decide)), if_neg (show ¬ y = 3 from out_ne (j := 3) (by decide) q (by decide))]
      exact h1.no rfl rfl (List.mem_singleton.mpr rfl) rfl
  · rw [bx_x k1, bq_e k2, if00, fail_R, bq_s]
    exact h1.no rfl rfl (List.mem_singleton.mpr rfl) rfl
theorem f_rows (h : Rl B P Q S g L d X σ ρ) (x : Int32) : Fc B ["java/lang/IndexOutOfBoundsException"] (fX11_rows x σ) (fX14_rows x ρ) := by
  have h1 := h.thr (v := 0)
  have hN := h.n12
  unfold fX11_rows fX14_rows
  rw [lt_k]
  rcases h1.at x with ⟨s, hs, rfl, k1, k2⟩ | ⟨k1, k2⟩
  · rw [bx_e k1, bq_e k2, if10, if_pos ((n_gi (by omega)).mpr (show s < 12 by omega)), n_cl (by omega)]
    obtain ⟨a1, a2, a3, a4, a5⟩ := h1.2.2.1.2.2.2.1 s hs
    exact h1.yes rfl (congrArg (fun v => some (v, _)) (a4.trans a2.symm)) rfl
  · rw [bx_x k1, bq_e k2, if00, fail_R, bq_s]
    exact h1.no rfl rfl (List.mem_singleton.mpr rfl) rfl
theorem f_watermark (h : Rl B P Q S g L d X σ ρ) (x : Int32) : Fc B ["java/lang/IndexOutOfBoundsException"] (fX11_watermark x σ) (fX14_watermark x ρ) := by
  have h1 := h.thr (v := 0)
  have hN := h.n12
  unfold fX11_watermark fX14_watermark
  rw [lt_k]
  rcases h1.at x with ⟨s, hs, rfl, k1, k2⟩ | ⟨k1, k2⟩
  · rw [bx_e k1, bq_e k2, if10, if_pos ((n_gi (by omega)).mpr (show s < 12 by omega)), n_cl (by omega)]
    obtain ⟨a1, a2, a3⟩ := h1.2.2.1.2.2.2.2.1 s hs
    exact h1.yes rfl (congrArg (fun v => some (v, _)) (a2.trans a1.symm)) rfl
  · rw [bx_x k1, bq_e k2, if00, fail_R, bq_s]
    exact h1.no rfl rfl (List.mem_singleton.mpr rfl) rfl
theorem f_lost (h : Rl B P Q S g L d X σ ρ) : Fp B (fX11_lost σ) (fX14_lost ρ) := by
  have h1 := h.thr (v := 0)
  unfold fX11_lost fX14_lost
  rw [lt_k]
  exact ⟨_, _, _, rfl, congrArg (fun v => some (v, _)) (h1.2.2.1.2.2.2.2.2.2.2.2.1.1).symm, h1.rel⟩
theorem f_errorAt (h : Rl B P Q S g L d X σ ρ) : Fp B (fX11_errorAt σ) (fX14_errorAt ρ) := by
  have h1 := h.thr (v := 0)
  unfold fX11_errorAt fX14_errorAt
  rw [lt_k]
  exact ⟨_, _, _, rfl, congrArg (fun v => some (v, _)) (h1.2.2.2.2.2.2.2.2.2.2.2.2.2.1).symm, h1.rel⟩
theorem f_isStopped (h : Rl B P Q S g L d X σ ρ) : Fp B (fX11_isStopped σ) (fX14_isStopped ρ) := by
  have h1 := h.thr (v := 0)
  unfold fX11_isStopped fX14_isStopped
  rw [lt_k]
  obtain ⟨b, b1, b2, b3⟩ := h1.2.2.1.2.2.2.2.2.2.2.2.1.2.1
  have hb01 : (nI b : Int32) = 0 ∨ (nI b : Int32) = 1 := by
    have : b = 0 ∨ b = 1 := by omega
    rcases this with rfl | rfl
    · exact Or.inl rfl
    · exact Or.inr rfl
  rw [b2, b3, if_pos hb01, if_pos hb01]
  exact ⟨_, _, _, rfl, rfl, h1.rel⟩
theorem f_broken (h : Rl B P Q S g L d X σ ρ) (x : Int32) : Fc B ["java/lang/IndexOutOfBoundsException"] (fX11_broken x σ) (fX14_broken x ρ) := by
  have h1 := h.thr (v := 0)
  obtain ⟨hp, ⟨hW, hPC, hPR, hz, hz3, hP⟩, hE, hG, hF, hNm, hRB⟩ := h
  have e1 : (zR σ 707 0 0 0).1 = P := by rw [hRB.1.1]
  have e2 : (zR (sI ρ 896 0 0 0 0) 898 0 0 0).1 = g := by show (zR ρ 898 0 0 0).1 = g; rw [hz3]
  have h323 := hPC.2.1
  have h781 : zI (sI ρ 896 0 0 0 0) 781 g 0 0 = nI (dM d) := hPR.2.1
  have hM := hW.2.1
  unfold fX11_broken fX14_broken
  rw [lt_k, e1, e2, h323, h781]
  rcases isIn_x (x := x) (N := dM d) (by omega) with ⟨a, ha, rfl, k⟩ | ⟨q, k⟩
  · have g2 : gi (nI a) 8 := (n_gi (by omega)).mpr (by omega)
    rw [bq_e (k _), if10, in_C (by omega) ha, if_pos g2, if_pos g2, n_cl (by omega)]
    exact h1.yes rfl (congrArg (fun v => some (v, _)) (hE.2.2.2.2.2.2.2.1 a ha).symm) rfl
  · rw [bq_e (k _), if00, out_C (by omega) q, fail_R, bq_s]
    exact h1.no rfl rfl (List.mem_singleton.mpr rfl) rfl
theorem cnt_l {s : Nat} {b : Int32} (h : Rl B P Q S g L d X σ ρ) (hs : s < dN d) : ∀ (k y i n m : Nat), y + k = X 4 s → k < n → k < m → ∃ v, fX10_countThose_4 P s b n (nI i) (nI y) σ = some (v, σ) ∧ fX14_windows_24 (nI s) b m (nI i) (nI y) ρ = some (v, ρ) := by
  have hN := h.n12
  obtain ⟨a1, a2, a3, a4, a5⟩ := h.2.2.1.2.2.2.2.2.1 s hs
  have b2 : s < 12 := by omega
  intro k
  induction k with
  | zero =>
    intro y i n m h1 h2 h3
    obtain ⟨n, rfl⟩ : ∃ j, n = j + 1 := ⟨n - 1, by omega⟩
    obtain ⟨m, rfl⟩ : ∃ j, m = j + 1 := ⟨m - 1, by omega⟩
    have b1 : X 4 s ≤ y := by omega
    rw [fX10_countThose_4, fX14_windows_24]
    simp (disch := omega) only [a3, a4, n_le, n_gi, n_cl, b1, b2, ↓reduceIte]
    exact ⟨_, rfl, rfl⟩
  | succ k ih =>
    intro y i n m h1 h2 h3
    obtain ⟨n, rfl⟩ : ∃ j, n = j + 1 := ⟨n - 1, by omega⟩
    obtain ⟨m, rfl⟩ : ∃ j, m = j + 1 := ⟨m - 1, by omega⟩
    have b1 : ¬ X 4 s ≤ y := by omega
    have b3 : y < 60 := by omega
    have b4 : ¬ 60 ≤ y := by omega
    have b5 : 60 * s + y < 720 := by omega
    obtain ⟨b', z, cl', hb0, hc0, k1, k2, k3, k4, k5, k6, k7, k8⟩ := a5 y (by omega)
    have e0 : (nI i + 0 : Int32) = nI i := by rw [i_0, n_add, Nat.add_zero]
    rw [fX10_countThose_4, fX14_windows_24, e0]
    simp (disch := omega) only [a3, a4, i_1, i_60, n_mul, n_add, n_le, n_gi, n_cl, b1, b2, b3, b4, b5, k6, k7, ↓reduceIte]
    split
    · exact ih (y + 1) (i + 1) n m (by omega) (by omega) (by omega)
    · exact ih (y + 1) i n m (by omega) (by omega) (by omega)
theorem f_windows (h : Rl B P Q S g L d X σ ρ) (x b : Int32) : Fc B ["java/lang/IndexOutOfBoundsException"] (fX11_windows x b σ) (fX14_windows x b ρ) := by
  have h1 := h.thr (v := 0)
  have hN := h.n12
  unfold fX11_windows fX14_windows
  rw [lt_k]
  rcases h1.at x with ⟨s, hs, rfl, k1, k2⟩ | ⟨k1, k2⟩
  · rw [bx_e k1, bq_e k2, if10]
    have a1 := (h1.2.2.1.2.2.2.2.2.1 s hs).1
    have ff : X 4 s < FU := by unfold FU; omega
    obtain ⟨v, u1, u2⟩ := cnt_l (b := b) h1 hs (X 4 s) 0 0 FU FU (by omega) ff ff
    unfold fX10_countThose
    simp only [i_0]
    rw [bq_e (by exact u1), show fX14_windows_24 (nI s) b FU (nI 0) (nI 0) (sI ρ 896 0 0 0 (nI 0)) = _ from u2]
    exact h1.yes rfl rfl rfl
  · rw [bx_x k1, bq_e k2, if00, fail_R, bq_s]
    exact h1.no rfl rfl (List.mem_singleton.mpr rfl) rfl
theorem f_forget (h : Rl B P Q S g L d X σ ρ) : Fp B (fX11_forget σ) (fX14_forget ρ) := by
  unfold fX11_forget fX14_forget
  obtain ⟨hp, hB, hE, hG, hF, hNm, h7, hL, hM, hV, hT, hO, hK, h12⟩ := h
  obtain ⟨v, v1, v2, v3, v4⟩ := hV
  have e3 : zI (sI ρ 896 0 0 0 0) 948 0 0 0 = nI v := v3
  simp only [lt_k]
  rw [v2, e3]
  refine ⟨_, _, _, rfl, rfl, P, Q, S, g, L, d, X, hp, ⟨hB.1, hB.2.1, hB.2.2.1, hB.2.2.2⟩, hE.sw hE.2.2.2, hG, hF, hNm, h7, hL, hM, ⟨0, by decide, rfl, rfl, fun c hc => absurd hc (Nat.not_lt_zero _)⟩, hT, hO, hK, h12⟩
theorem f_value (h : Rl B P Q S g L d X σ ρ) (x : Int64) : Fc B ["java/lang/IllegalStateException"] (fX11_value x σ) (fX14_value x ρ) := by
  have h1 := h.thr (v := 0)
  unfold fX11_value fX14_value fX6_append
  obtain ⟨hp, hB, hE, hG, hF, hNm, h7, hL, hM, hV, hT, hO, hK, h12⟩ := h
  obtain ⟨v, v1, v2, v3, v4⟩ := hV
  have e3 : zI (sI ρ 896 0 0 0 0) 948 0 0 0 = nI v := v3
  simp only [lt_k]
  rw [v2, e3]
  by_cases q : v < 6
  · have c1 : ¬ v < 0 := by omega
    have c2 : ¬ 6 ≤ v := by omega
    have c3 : ¬ v = 6 := by omega
    have e4 : ∀ a, zI (sJ σ 1410 3 0 v a) 385 3 0 0 = nI v := fun _ => v2
    have e5 : ∀ a b, zI (sJ (sI ρ 896 0 0 0 b) 1973 0 0 v a) 948 0 0 0 = nI v := fun _ _ => v3
    simp (disch := omega) only [i_0, i_1, i_6, n_lt, n_le, n_eq, n_gi, n_cl, n_add, q, c1, c2, c3, e4, e5, ↓reduceIte, bq_s]
    refine ⟨_, _, _, _, rfl, rfl, ⟨rfl, rfl⟩, P, Q, S, g, L, d, X, hp, ⟨hB.1, hB.2.1, hB.2.2.1, hB.2.2.2⟩, hE.sw hE.2.2.2, hG, hF, hNm, h7, hL, hM, ⟨v + 1, by omega, rfl, rfl, fun c hc => ?_⟩, hT, hO, hK, h12⟩
    show zJ (sJ σ 1410 3 0 v x) 1410 3 0 c = zJ (sJ (sI ρ 896 0 0 0 (nI 0)) 1973 0 0 v x) 1973 0 0 c
    rw [zJ_sJ, zJ_sJ]
    by_cases e : c = v
    · rw [if_pos ⟨rfl, rfl, rfl, e⟩, if_pos ⟨rfl, rfl, rfl, e⟩]
    · rw [if_neg (fun z => e z.2.2.2), if_neg (fun z => e z.2.2.2)]
      exact v4 c (by omega)
  · have c3 : v = 6 := by omega
    subst c3
    rw [if_neg (by decide), if_pos (by decide), fail_R, bq_s]
    exact h1.no rfl rfl (List.mem_singleton.mpr rfl) rfl
theorem f_mark (h : Rl B P Q S g L d X σ ρ) : Fc B ["java/lang/IllegalStateException"] (fX11_mark σ) (fX14_mark ρ) := by
  have h1 := h.thr (v := 0)
  unfold fX11_mark fX14_mark
  obtain ⟨hp, hB, hE, hG, hF, hNm, h7, hL, hM, hV, hT, hO, hK, h12⟩ := h
  obtain ⟨hW, hPC, hPR, hz, hz3, hP⟩ := hB
  have hN := hW.1
  obtain ⟨K, m, m1, m2, m3, m4, m5⟩ := hM
  have e1 : (zR σ 707 0 0 0).1 = P := by rw [h7.1]
  have e2 : (zR (sI ρ 896 0 0 0 0) 898 0 0 0).1 = g := by show (zR ρ 898 0 0 0).1 = g; rw [hz3]
  have e3 : zI (sI ρ 896 0 0 0 0) 768 g 0 0 = nI (dN d) := hPR.1
  have e4 : zI (sI ρ 896 0 0 0 0) 946 0 0 0 = nI K := m3
  have e5 : zI (sI ρ 896 0 0 0 0) 940 0 0 0 = nI L := hL.2.2.1
  simp only [lt_k]
  rw [e1, e2, hPC.1, e3, m2, e4, e5, hL.2.1]
  by_cases q : dN d = 0
  · rw [if_pos (by rw [q]; rfl), if_pos (by rw [q]; rfl), fail_R, bq_s]
    exact h1.no rfl rfl (List.mem_singleton.mpr rfl) rfl
  · have c0 : ¬ (nI (dN d) : Int32) = 0 := by rw [i_0, n_eq (by omega) (by omega)]; exact q
    rw [if_neg c0, if_neg c0]
    have i8 : (8 : Int32) = nI 8 := rfl
    by_cases q8 : K < 8
    · have c3 : ¬ K = 8 := by omega
      have f4 : ∀ a, zI (sI σ 1741 0 0 K a) 718 0 0 0 = nI K := fun _ => m2
      have f5 : ∀ a b, zI (sI (sI ρ 896 0 0 0 b) 1971 0 0 K a) 946 0 0 0 = nI K := fun _ _ => m3
      have f6 : ∀ z, zI (sI z 718 0 0 0 (nI (K + 1))) 718 0 0 0 = nI (K + 1) := fun _ => rfl
      have f7 : ∀ z, zI (sI z 946 0 0 0 (nI (K + 1))) 946 0 0 0 = nI (K + 1) := fun _ => rfl
      simp (disch := omega) only [i8, i_1, n_lt, n_eq, n_gi, n_cl, n_add, q8, c3, f4, f5, f6, f7, ↓reduceIte]
      refine ⟨_, _, _, _, rfl, rfl, ⟨rfl, rfl⟩, P, Q, S, g, L, d, X, hp, ⟨hW, hPC, hPR, hz, hz3, hP⟩, hE.sw hE.2.2.2, hG, hF, hNm, h7, hL, ⟨K + 1, fun k => if k = K then L else m k, by omega, rfl, rfl, fun k hk => ?_, fun j k h1 h2 => ?_⟩, hV, hT, hO, hK, h12⟩
      · show zI (sI σ 1741 0 0 K (nI L)) 1741 0 0 k = nI (if k = K then L else m k) ∧ zI (sI ρ 1971 0 0 K (nI L)) 1971 0 0 k = nI (if k = K then L else m k) ∧ (if k = K then L else m k) ≤ L
        rw [zI_sI, zI_sI]
        by_cases e : k = K
        · rw [if_pos e, if_pos ⟨rfl, rfl, rfl, e⟩, if_pos ⟨rfl, rfl, rfl, e⟩]
          exact ⟨rfl, rfl, Nat.le_refl _⟩
        · rw [if_neg e, if_neg (fun z => e z.2.2.2), if_neg (fun z => e z.2.2.2)]
          exact m4 k (by omega)
      · show (if j = K then L else m j) ≤ (if k = K then L else m k)
        by_cases e : k = K
        · rw [if_pos e]
          split
          · exact Nat.le_refl _
          · exact (m4 j (by omega)).2.2
        · rw [if_neg e, if_neg (by omega)]
          exact m5 j k h1 (by omega)
    · have c3 : K = 8 := by omega
      subst c3
      rw [if_neg (by decide), if_pos (by decide), fail_R, bq_s]
      exact h1.no rfl rfl (List.mem_singleton.mpr rfl) rfl
theorem f_trim (h : Rl B P Q S g L d X σ ρ) (x : Int32) : Fc B ["java/lang/IllegalArgumentException"] (fX11_trim x σ) (fX14_trim x ρ) := by
  have h1 := h.thr (v := 0)
  unfold fX11_trim fX14_trim
  obtain ⟨hp, hB, hE, hG, hF, hNm, h7, hL, hM, hV, hT, hO, hK, h12⟩ := h
  obtain ⟨T, f, t1, t2, t3, t4⟩ := hT
  have e3 : zI (sI ρ 896 0 0 0 0) 900 0 0 0 = nI T := t3
  simp only [lt_k]
  have e4 : (nI (T + 1) - 1 : Int32) = nI T := by rw [i_1, n_sub (by omega)]; rfl
  rw [t2, e3, ← e4]
  rcases isIn_x (x := x) (N := T + 1) (by omega) with ⟨a, ha, rfl, k⟩ | ⟨q, k⟩
  · rw [bq_e (k _), if10, e4]
    have c1 : ¬ a < 0 := by omega
    have c2 : a ≤ T := by omega
    simp (disch := omega) only [i_0, n_lt, n_le, c1, c2, ↓reduceIte]
    exact ⟨_, _, _, _, rfl, rfl, ⟨rfl, rfl⟩, P, Q, S, g, L, d, X, hp, ⟨hB.1, hB.2.1, hB.2.2.1, hB.2.2.2⟩, hE.sw hE.2.2.2, hG, hF, hNm, h7, hL, hM, hV, ⟨a, f, by omega, rfl, rfl, fun i hi => t4 i (by omega)⟩, hO, hK, h12⟩
  · rw [bq_e (k _), if00, fail_R, bq_s, e4]
    refine h1.no (E := "java/lang/IllegalArgumentException") ?_ rfl (List.mem_singleton.mpr rfl) rfl
    rcases q with q | ⟨a, a1, a2, rfl⟩
    · rw [if_pos q]
    · have c1 : ¬ a < 0 := by omega
      have c2 : ¬ a ≤ T := by omega
      simp (disch := omega) only [i_0, n_lt, n_le, c1, c2, ↓reduceIte]
end FA
