/-! ITEMS, both: a check: its start, its input, the description with it -/
def scC (σ : Zs) (S k : Nat) : Zs := sR (sI σ 197 0 0 0 1) 196 0 0 0 (S, k)
section CK
variable {x : Cx} {b t : Nat} {σ ρ : Zs} {d : Pd}
theorem s_startc (h : ITm x d t σ ρ) : ∃ σ1, fX3_startCheck (nI (qp x t)) σ = some ((), σ1) ∧ St (qS x) 1 (qC x) σ1 ∧ MF σ σ1 ∧ (qM x = 1 → (dM d < 8 ∧ σ1 = scC σ (qS x) (dM d)) ∨ (¬ dM d < 8 ∧ Ew x (4, nI (qp x t)) σ1)) := by
  obtain ⟨h1, h2, h3, h4, h5, h6, h7⟩ := h
  obtain ⟨⟨⟩, σ1, e1, k1⟩ := wp_ex (k_startCheck h1 (y := nI (qp x t)))
  refine ⟨σ1, e1, k1, mf_X3_startCheck MF.rf _ _ e1, fun m => ?_⟩
  obtain ⟨g1, ⟨gW, _⟩, L, z, g2, g3, g4, g5, g6, g7, _⟩ := h7 m
  have e4 : (zR (sI σ 197 0 0 0 1) 194 0 0 0).1 = qS x := by show (zR σ 194 0 0 0).1 = qS x; rw [h1.1.1]
  have e3 : zI (sI σ 197 0 0 0 1) 323 (qS x) 0 0 = nI (dM d) := g7
  have i8 : (8 : Int32) = nI 8 := rfl
  have hM := gW.2.1
  unfold fX3_startCheck at e1
  rw [if_pos g1, lt_k, e4, e3, i8] at e1
  by_cases q : dM d < 8
  · refine Or.inl ⟨q, ?_⟩
    rw [if_pos ((n_lt (by omega) (by omega)).mpr q), if_pos ((n_gi (by omega)).mpr q), n_cl (by omega), lt_k] at e1
    cases e1
    rfl
  · refine Or.inr ⟨q, Or.inr ⟨m, (show ¬ (4 : Int32) = 1 by decide), ?_⟩⟩
    rw [if_neg (fun z => q ((n_lt (by omega) (by omega)).mp z))] at e1
    unfold fX3_report at e1
    have k2 : zI (sI σ 197 0 0 0 1) 192 0 0 0 = 0 := g1
    rw [if_pos k2, lt_k, lt_k, bq_s] at e1
    cases e1
    exact ⟨rfl, rfl, (show ¬ (4 : Int32) = 0 by decide)⟩
/-- a check's input -/
theorem fi_K {S k A : Nat} {w : Int64} {p : Int32} (h192 : zI σ 192 0 0 0 = 0) (h197 : zI σ 197 0 0 0 = 1) (h196 : zR σ 196 0 0 0 = (S, k)) (h194 : zR σ 194 0 0 0 = (S, 0)) (hA : A < 12) (hs : fX5_streamNamed S w σ = some (nI A, σ)) : fX3_lookAtName 2 w p σ = some ((), sI (sR σ 198 0 0 0 (S, A)) 0 S k 0 (nI A)) := by
  have r4 : (zR σ 194 0 0 0).1 = S := by rw [h194]
  unfold fX3_lookAtName
  rw [if_pos h192, if_neg (by decide), if_neg (by decide), if_pos rfl]
  unfold fX3_setFirstInput
  have e197 : ¬ zI (sR σ 198 0 0 0 (S, A)) 197 0 0 0 = 0 := by show ¬ zI σ 197 0 0 0 = 0; rw [h197]; decide
  have e196 : zR (sR σ 198 0 0 0 (S, A)) 196 0 0 0 = (S, k) := h196
  rw [r4, bq_e hs, if_pos (show (0 : Int32) ≤ nI A by rw [i_0, n_le (by omega) (by omega)]; omega), if_pos ((n_gi (by omega)).mpr hA), n_cl (show A < 2147483648 by omega), lt_k, r4, if_neg e197, lt_k, bq_s, e196]
/-- within a check -/
def CIx (x : Cx) (d : Pd) (L z : Nat) (σb ρb : Zs) (t : Nat) (σ ρ : Zs) : Prop := zI σ 192 0 0 0 = 0 ∧ zI σ 197 0 0 0 = 1 ∧ zR σ 196 0 0 0 = (qS x, dM d) ∧ IFC (qS x) (dN d) (dM d) L σb σ ∧ IFL (qG x) (dN d) z ρb ρ ∧ ∃ L' z', L ≤ L' ∧ z ≤ z' ∧ L' ≤ t ∧ z' ≤ 2 * t ∧ zI σ 326 (qS x) 0 0 = nI L' ∧ zI ρ 785 (qG x) 0 0 = nI z'
-- the description with one more check
variable {a f : Nat} {o : List Op} {s c : Nat}
theorem dc_N : dN (dChk d a f o) = dN d := rfl
theorem dc_M : dM (dChk d a f o) = dM d + 1 := rfl
theorem dc_K : dK (dChk d a f o) s = dK d s := rfl
theorem dc_W : dW (dChk d a f o) s = dW d s := rfl
theorem dc_A : dA (dChk d a f o) s = dA d s := rfl
theorem dc_B : dB (dChk d a f o) s = dB d s := rfl
theorem dc_S : dS (dChk d a f o) s = dS d s := rfl
theorem dc_L : dL (dChk d a f o) s = dL d s := rfl
theorem dc_Y : dY (dChk d a f o) s = dY d s := rfl
theorem dc_Z : dZ (dChk d a f o) s = dZ d s := rfl
theorem dc_P : dP (dChk d a f o) s c = dP d s c := rfl
theorem dc_Nm : dNm (dChk d a f o) s = dNm d s := rfl
theorem dc_Cn : dCn (dChk d a f o) s c = dCn d s c := rfl
theorem dc_O (h : s < 12) : dO (dChk d a f o) s c = dO d s c := by
  show (if s = 12 + dM d then o else d.2.2 s c) = _
  rw [if_neg (by omega)]; rfl
theorem dc_CS : dCS (dChk d a f o) c = if c = dM d then a else dCS d c := rfl
theorem dc_CF : dCF (dChk d a f o) c = if c = dM d then f else dCF d c := rfl
theorem dc_CO : dCO (dChk d a f o) c = if c = dM d then o else dCO d c := by
  show (if 12 + c = 12 + dM d then o else d.2.2 (12 + c) 0) = _
  by_cases q : c = dM d
  · rw [if_pos (by omega), if_pos q]
  · rw [if_neg (by omega), if_neg q]; rfl
end CK
