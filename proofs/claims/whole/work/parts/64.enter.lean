/-! WINDOWS: a row comes to a window -/
theorem wm_lt {k e : Nat} (hk : k < 1073741824) (he : e < 1073741824) : wmv k < nI e ↔ k ≤ e := by
  unfold wmv
  rw [Int32.lt_iff_toInt_lt, nI_toInt (by omega)]
  cases k with
  | zero =>
    have : (nI 0 + -nI 1 : Int32).toInt = -1 := rfl
    rw [this]; omega
  | succ k => rw [n_p1 (by omega), nI_toInt (by omega)]; omega
theorem wm_le {k e : Nat} (hk : k < 1073741824) (he : e < 1073741824) : nI e ≤ wmv k ↔ e + 1 ≤ k := by
  rw [← i_nlt, wm_lt hk he]; omega
theorem end_C {t n : Nat} (ht : t < 2147483648) (hn0 : 0 < n) (hn : n < 2147483648) : nI t - (nI t - nI t / nI n * nI n) + nI n = nI (t / n * n + n) := by
  rw [pk_rem ht hn0 hn, n_sub (Nat.mod_le t n), n_add]
  congr 2
  have := Nat.div_add_mod t n
  rw [Nat.mul_comm] at this
  omega
theorem beg_R {t n : Nat} (ht : t < 2147483648) (hn0 : 0 < n) (hn : n < 2147483648) : (lN t / (nI n).toInt64 * (nI n).toInt64).toInt32 = nI (t / n * n) := by
  rw [n_i64 hn, pk_lDiv (by omega) hn0 (by omega), lN_mul, lN_i]
theorem lN_ne0 {n : Nat} (h : 0 < n) (h2 : n < 2147483648) : ¬ lN n = 0 := fun q => by
  have : lN n = lN 0 := q
  rw [lN_eq h2 (by decide)] at this
  omega
/-- what a row's coming to step s may change of the numbers -/
def XB (d : Pd) (s : Nat) (X X' : Nat → Nat → Nat) : Prop := (∀ k i, i ≠ s → k ≠ 5 → k ≤ 11 → X' k i = X k i) ∧ (∀ k, k = 1 ∨ k = 2 ∨ k = 3 ∨ k = 7 ∨ k = 8 → X' k s = X k s) ∧ X' 12 0 = X 12 0 ∧ X 0 s ≤ X' 0 s ∧ X' 9 s ≤ X 9 s + 1 ∧ (dK d s = 6 → X' 11 s = X 11 s + 1) ∧ (∀ k i, k = 15 ∨ k = 16 → ¬ (60 * s ≤ i ∧ i < 60 * s + 60) → X' k i = X k i)
theorem XB.o {d : Pd} {s : Nat} {X Y Z : Nat → Nat → Nat} (h : XB d s X Y) (k : XO s Y Z) : XB d s X Z := by
  obtain ⟨h1, h2, h3, h4, h5, h6, h7⟩ := h
  refine ⟨fun a i e1 e2 e3 => (k.1 a i (fun q => e1 q.2) e2).trans (h1 a i e1 e2 e3), fun a ha => (k.1 a s (fun q => by omega) (by omega)).trans (h2 a ha), (k.e (by decide) (by decide)).trans h3, Nat.le_trans h4 k.2, ?_, fun q => (k.e (by decide) (by decide)).trans (h6 q), fun a i ha hi => (k.e (by omega) (by omega)).trans (h7 a i ha hi)⟩
  rw [k.e (by decide) (by decide)]; exact h5
/-- what comes of a row: nothing more (0), or the stream would get the class's row 2 (1) -/
def OutW (P : Nat) (d : Pd) (σ0 ρ0 : Zs) (τ : Prop) (X : Nat → Nat → Nat) (s : Nat) (v : Int32) (σ1 : Zs) (r : Option (Unit × Zs)) : Prop := ∃ X', XB d s X X' ∧ ((v = 0 ∧ ∃ ρ', r = some ((), ρ') ∧ ER P d σ0 ρ0 τ X' σ1 ρ') ∨ (v = 1 ∧ ∃ ρ1 t, r = bq (fX14_offer (nI s) ρ1) (fun _ z => some ((), z)) ∧ ER P d σ0 ρ0 τ X' σ1 ρ1 ∧ RW 2 0 t (dW d s) σ1 ρ1 ∧ t ≤ TB s))
/-- .. into a window -/
def XV (s : Nat) (X X' : Nat → Nat → Nat) : Prop := (∀ k i, k ≤ 11 → ¬ (k = 4 ∧ i = s) → ¬ (k = 9 ∧ i = s) → X' k i = X k i) ∧ X' 12 0 = 0 ∧ X' 9 s ≤ X 9 s + 1 ∧ (∀ k i, k = 15 ∨ k = 16 → ¬ (60 * s ≤ i ∧ i < 60 * s + 60) → X' k i = X k i)
theorem XV.b {d : Pd} {s : Nat} {X Y : Nat → Nat → Nat} (h : XV s X Y) (hk : dK d s = 7) (h12 : X 12 0 = 0) : XB d s X Y := ⟨fun k i e1 _ e3 => h.1 k i e3 (fun q => e1 q.2) (fun q => e1 q.2), fun k hk => h.1 k s (by omega) (fun q => by omega) (fun q => by omega), by rw [h.2.1, h12], Nat.le_of_eq (h.1 0 s (by decide) (fun q => by omega) (fun q => by omega)).symm, h.2.2.1, fun q => by omega, h.2.2.2⟩
theorem XB.rf {d : Pd} {s : Nat} {X : Nat → Nat → Nat} (hk : dK d s ≠ 6) : XB d s X X := ⟨fun _ _ _ _ _ => rfl, fun _ _ => rfl, rfl, Nat.le_refl _, Nat.le_succ _, fun q => absurd q hk, fun _ _ _ _ => rfl⟩
section EN
variable {P g : Nat} {d : Pd} {σ0 ρ0 : Zs} {τ : Prop} {X : Nat → Nat → Nat} {σ ρ : Zs} {s : Nat}
theorem upw_W {w k4 : Nat} : XV s X (upx (upx (upw X s w 2 k4) 14 0 (dW d s)) 12 0 0) := by
  refine ⟨fun k i hk h4 h9 => ?_, rfl, Nat.le_of_eq ?_, fun k i hk _ => ?_⟩
  · unfold upw upx
    rw [if_neg (by omega), if_neg (by omega), if_neg (by omega), if_neg (by omega), if_neg (by omega), if_neg h9, if_neg h4]
  · show (if 9 = 9 ∧ s = s then _ else _) = _
    rw [if_pos ⟨rfl, rfl⟩]
  · rcases hk with rfl | rfl <;> rfl
theorem upw_W2 {w k4 x b : Nat} (hw : w < 60) : XV s X (upx (upx (upx (upx (upw X s w 2 k4) 15 (60 * s + w) x) 16 (60 * s + w) b) 14 0 (dW d s)) 12 0 0) := by
  refine ⟨fun k i hk h4 h9 => ?_, rfl, Nat.le_of_eq ?_, fun k i hk hi => ?_⟩
  · unfold upw upx
    rw [if_neg (by omega), if_neg (by omega), if_neg (by omega), if_neg (by omega), if_neg (by omega), if_neg (by omega), if_neg (by omega), if_neg h9, if_neg h4]
  · show (if 9 = 9 ∧ s = s then _ else _) = _
    rw [if_pos ⟨rfl, rfl⟩]
  · unfold upw upx
    rw [if_neg (by omega), if_neg (by omega), if_neg (by omega), if_neg (by omega), if_neg (by omega), if_neg (by omega), if_neg (by omega), if_neg (by omega), if_neg (by omega)]
theorem r_enter90 {x1 x2 : Int32} {c2 p2 s2 n2 off b cl : Nat} (hB : EB P g d σ0 ρ0) (h : ER P d σ0 ρ0 τ X σ ρ) (hs : s < dN d) (hk7 : dK d s = 7) (h12 : X 12 0 = 0) (h9 : X 9 s < 1000000) (hc2 : c2 = 1940 ∨ c2 = 1919) (hn2 : n2 < 2147483648) (hoff : off + dW d (dA d s) < n2) (hrow : RowR 0 0 σ c2 p2 s2 off (dW d (dA d s)) ρ) (hb : b + dS d s ≤ TB s) (hcl : cl ≤ 1) :
    (fX1_enterWindow_90 x1 x2 P s (nI (b + dS d s)) (nI cl) σ = some (0, sI σ 67 0 0 0 (zI σ 67 0 0 0 + 1)) ∧ fX14_putIn (nI s) c2 p2 s2 n2 (nI off) (nI b) (nI cl) ρ = some (-nI 1, ρ)) ∨
    (∃ w σ' ρ' X', fX1_enterWindow_90 x1 x2 P s (nI (b + dS d s)) (nI cl) σ = fX1_enterWindow_233 x1 x2 P s (nI cl) P s (nI w) σ' ∧ fX14_putIn (nI s) c2 p2 s2 n2 (nI off) (nI b) (nI cl) ρ = some (nI w, ρ') ∧ ER P d σ0 ρ0 τ X' σ' ρ' ∧ w < X' 4 s ∧ XV s X X') := by
  obtain ⟨hW, hPC, hPR, hz, hz3, hP⟩ := hB.fr h
  have hC := hPC.2.2.choose_spec.2.2.1 s hs
  have hR := hPR.2.2.1 s hs
  have hN := hW.n
  have w6 := hW.w6 hs
  have hAs : dA d s < s := hW.a hs (by rw [hk7]; decide)
  have hA6 := hW.w6 (Nat.lt_trans hAs hs)
  obtain ⟨o1, o2, o3, hop⟩ := (hW.2.2.1 s hs).2.2.2.2.2.2.2.2.2.2.2.2.2 hk7
  have hTB : TB s < 2000000 := by unfold TB; omega
  have h453 : zI σ 453 P s 0 = nI (dY d s) := hC.2.2.2.2.2.2.1 (by omega)
  have h1801 : zI ρ 1801 g 0 s = nI (dY d s) := hR.2.2.2.2.2.2.1 (by omega)
  have key : zJ σ 1410 0 0 (dY d s) = zJ ρ c2 p2 s2 (off + 1 + dY d s) := hrow.2 _ o1
  have b2 : s < 12 := by omega
  have b3 : off + 1 + dY d s < n2 := by omega
  obtain ⟨a1, a2, a3, a4, a5⟩ := h.2.2.2.2.2.1 s hs
  have f4 : X 4 s < FU := by unfold FU; omega
  have hfind := r_find_l (P := P) (σ := σ) (ρ := ρ) (key := zJ ρ c2 p2 s2 (off + 1 + dY d s)) (b := b) (cl := nI cl) hN hs (by omega) h.2.2.2.2.2.1 (X 4 s) 0 FU FU (by omega) f4 f4
  unfold fX1_enterWindow_90 fX14_putIn
  rw [h453, bq_e (row_num (by omega)), key]
  simp (maxSteps := 1000000) (disch := omega) only [hz3, h1801, i_0, i_1, i_2, i_12, n_gi, n_cl, n_add, b2, b3, ↓reduceIte]
  unfold fX10_placeFor fX14_findWindow
  simp only [i_0]
  rcases hfind with ⟨w, hw, u1, u2⟩ | ⟨u1, u2⟩
  · right
    obtain ⟨b', z, cl', hb0, hc0, k1, k2, k3, k4, k5, k6, k7, k8, k9, k10, k11, k12⟩ := a5 w hw
    have c1 : 60 * s + w < 720 := by omega
    have c2' : ¬ w < 0 := by omega
    have c3 : ¬ X 4 s ≤ w := by omega
    have c4 : w < 60 := by omega
    have c5 : ¬ z = 0 := by omega
    have hcnt : fX10_countRow P s (nI w) σ = some ((), sI σ 1668 P s w (zI σ 1668 P s w + 1)) := by
      unfold fX10_countRow
      simp (disch := omega) only [i_0, a3, n_lt, n_le, n_gi, n_cl, c2', c3, c4, ↓reduceIte, lt_k]
    rw [bq_e u1, bq_e u2]
    have e0 : (0 : Nat) ≤ w := Nat.zero_le w
    simp (disch := omega) only [i_60, k11, n_le, n_m1, n_mul, n_add, n_gi, n_cl, n_eq, c1, c5, e0, ↓reduceIte]
    rw [bq_e hcnt]
    unfold fX14_putIn_140
    simp (disch := omega) only [i_0, i_1, i_2, i_60, n_mul, n_add, n_gi, n_cl, c1, ↓reduceIte, lt_k]
    have hE := h.count hN h12 hs hw
    have e10 : zI (sI σ 1668 P s w (zI σ 1668 P s w + 1)) 1668 P s w = nI (z + 1) := by
      rw [zI_sI, if_pos ⟨rfl, rfl, rfl, rfl⟩, k10, nI_succ]
    have hrow2 : RowR 0 0 (sI σ 1668 P s w (zI σ 1668 P s w + 1)) c2 p2 s2 off (dW d (dA d s)) (sI ρ 1963 0 0 (60 * s + w) (zI ρ 1963 0 0 (60 * s + w) + 1)) := hrow
    have ew : w < upw X s w 2 (X 4 s) 4 s := by rw [upw4, if_pos rfl]; exact hw
    have e9 : upw X s w 2 (X 4 s) 9 s < 2147483648 := by rw [upw9, if_pos rfl]; omega
    have ff : dW d s - 2 < FU := by unfold FU; omega
    obtain ⟨σ', ρ', v1, v2, v3⟩ := r_cols (x1 := x1) (x2 := x2) (x5 := nI b) (yb := nI cl) (f := nI 0) (z := z + 1) hB hs hk7 hc2 hn2 hoff rfl (by omega) (by omega) (Or.inr ⟨by omega, rfl⟩) (dW d s - 2) 2 FU FU (upw X s w 2 (X 4 s)) _ _ (by omega) (Nat.le_refl _) ff ff ew rfl rfl rfl e9 e10 hrow2 hE
    refine ⟨w, σ', ρ', _, v1, v2, v3.close rfl (Nat.le_refl _), ?_, upw_W⟩
    exact ew
  · rw [bq_e u2]
    by_cases e60 : X 4 s = 60
    · left
      have u3 : fX10_placeFor_54 P s (zJ ρ c2 p2 s2 (off + 1 + dY d s)) (nI (b + dS d s)) (nI cl) σ = some (-nI 1, σ) := by
        unfold fX10_placeFor_54
        have c1 : ¬ (60 : Nat) < 60 := by decide
        simp (disch := omega) only [a3, e60, i_1, i_60, n_lt, c1, ↓reduceIte]
      rw [u1, bq_e u3]
      have c2' : ¬ (nI 0 : Int32) ≤ -nI 1 := by decide
      simp (disch := omega) only [c2', a4, e60, i_12, i_60, n_gi, n_cl, n_eq, b2, ↓reduceIte, lt_k]
      constructor <;> first | trivial | rfl
    · right
      have h60 : X 4 s < 60 := by omega
      have c1 : 60 * s + X 4 s < 720 := by omega
      have c2' : ¬ X 4 s < 0 := by omega
      have c3 : ¬ X 4 s + 1 ≤ X 4 s := by omega
      have c4 : X 4 s < 60 := h60
      have cl2 : nI cl = 0 ∨ nI cl = 1 := by
        have : cl = 0 ∨ cl = 1 := by omega
        rcases this with rfl | rfl
        · exact Or.inl rfl
        · exact Or.inr rfl
      have u3 : fX10_placeFor_54 P s (zJ ρ c2 p2 s2 (off + 1 + dY d s)) (nI (b + dS d s)) (nI cl) σ = some (nI (X 4 s), sI (sI (sI (sI (sJ σ 1665 P s (X 4 s) (zJ ρ c2 p2 s2 (off + 1 + dY d s))) 1666 P s (X 4 s) (nI (b + dS d s))) 1667 P s (X 4 s) (nI cl)) 1668 P s (X 4 s) 0) 640 P s 0 (nI (X 4 s + 1))) := by
        unfold fX10_placeFor_54
        have d1 : ¬ 640 = 1666 := by decide
        have d2 : ¬ 640 = 1667 := by decide
        have d3 : ¬ 640 = 1668 := by decide
        have d4 : X 4 s + 1 - 1 = X 4 s := by omega
        simp (disch := omega) only [a3, i_60, n_lt, n_gi, n_cl, c4, ↓reduceIte, lt_k, zI_sJ, zI_sI, d1, d2, d3, false_and, cl2, true_and, and_self]
        rw [show (1 : Int32) = nI 1 from rfl, n_add, n_sub (by omega), d4]
      rw [u1, bq_e u3]
      generalize hσ2 : sI (sI (sI (sI (sJ σ 1665 P s (X 4 s) (zJ ρ c2 p2 s2 (off + 1 + dY d s))) 1666 P s (X 4 s) (nI (b + dS d s))) 1667 P s (X 4 s) (nI cl)) 1668 P s (X 4 s) 0) 640 P s 0 (nI (X 4 s + 1)) = σ2
      have g3 : zI σ2 640 P s 0 = nI (X 4 s + 1) := by rw [← hσ2, zI_sI, if_pos ⟨rfl, rfl, rfl, rfl⟩]
      have hcnt : fX10_countRow P s (nI (X 4 s)) σ2 = some ((), sI σ2 1668 P s (X 4 s) (zI σ2 1668 P s (X 4 s) + 1)) := by
        unfold fX10_countRow
        simp (disch := omega) only [i_0, g3, n_lt, n_le, n_gi, n_cl, c2', c3, c4, ↓reduceIte, lt_k]
      have e2 : sI σ2 1668 P s (X 4 s) (zI σ2 1668 P s (X 4 s) + 1) = newC σ P s (X 4 s) (zJ ρ c2 p2 s2 (off + 1 + dY d s)) (nI (b + dS d s)) (nI cl) := by
        have e3 : zI σ2 1668 P s (X 4 s) = 0 := by
          rw [← hσ2]
          show (if 1668 = 1668 ∧ P = P ∧ s = s ∧ X 4 s = X 4 s then _ else _) = _
          rw [if_pos ⟨rfl, rfl, rfl, rfl⟩]
        rw [e3, ← hσ2]
        unfold newC
        refine zs_ext (fun c p q i => ?_) (fun _ _ _ _ => rfl) (fun _ _ _ _ => rfl)
        simp only [zI_sI, zI_sJ]
        have : (0 + 1 : Int32) = 1 := rfl
        rw [this]
        grind
      have e0 : (0 : Nat) ≤ X 4 s := Nat.zero_le _
      simp (disch := omega) only [i_0, n_le, e0, ↓reduceIte]
      rw [bq_e hcnt, e2]
      have d1 : ¬ 1963 = 1961 := by decide
      simp (maxSteps := 1000000) (disch := omega) only [a4, e60, cl2, c1, b2, i_1, i_12, i_60, n_mul, n_add, n_gi, n_cl, n_eq, ↓reduceIte, lt_k]
      have hcl01 : cl = 0 ∨ cl = 1 := by omega
      have e63 : zI (sI (sI (sI (sJ (sI ρ 1958 0 0 s (nI (X 4 s + 1))) 1959 0 0 (60 * s + X 4 s) (zJ ρ c2 p2 s2 (off + 1 + dY d s))) 1960 0 0 (60 * s + X 4 s) (nI b)) 1961 0 0 (60 * s + X 4 s) (nI cl)) 1963 0 0 (60 * s + X 4 s) (nI 0)) 1963 0 0 (60 * s + X 4 s) = nI 0 := by rw [zI_sI, if_pos ⟨rfl, rfl, rfl, rfl⟩]
      rw [if_pos hcl01, if_pos e63]
      unfold fX14_putIn_140
      simp (disch := omega) only [i_1, i_2, i_60, n_mul, n_add, n_gi, n_cl, c1, e63, ↓reduceIte, lt_k]
      have e4 : sI (sI (sI (sI (sJ (sI ρ 1958 0 0 s (nI (X 4 s + 1))) 1959 0 0 (60 * s + X 4 s) (zJ ρ c2 p2 s2 (off + 1 + dY d s))) 1960 0 0 (60 * s + X 4 s) (nI b)) 1961 0 0 (60 * s + X 4 s) (nI cl)) 1963 0 0 (60 * s + X 4 s) (nI 0)) 1963 0 0 (60 * s + X 4 s) (nI (0 + 1)) = newR ρ s (X 4 s) (zJ ρ c2 p2 s2 (off + 1 + dY d s)) (nI b) (nI cl) := by
        unfold newR
        refine zs_ext (fun c p q i => ?_) (fun _ _ _ _ => rfl) (fun _ _ _ _ => rfl)
        simp only [zI_sI, zI_sJ]
        have : (nI (0 + 1) : Int32) = 1 := rfl
        rw [this]
        grind
      rw [e4]
      have hE := h.newW (key := zJ ρ c2 p2 s2 (off + 1 + dY d s)) hN h12 hs hk7 h60 hb hcl
      have e10 : zI (newC σ P s (X 4 s) (zJ ρ c2 p2 s2 (off + 1 + dY d s)) (nI (b + dS d s)) (nI cl)) 1668 P s (X 4 s) = nI 1 := by
        show (if 1668 = 1668 ∧ P = P ∧ s = s ∧ X 4 s = X 4 s then _ else _) = _
        rw [if_pos ⟨rfl, rfl, rfl, rfl⟩]; rfl
      have hrow2 : RowR 0 0 (newC σ P s (X 4 s) (zJ ρ c2 p2 s2 (off + 1 + dY d s)) (nI (b + dS d s)) (nI cl)) c2 p2 s2 off (dW d (dA d s)) (newR ρ s (X 4 s) (zJ ρ c2 p2 s2 (off + 1 + dY d s)) (nI b) (nI cl)) := by
        obtain ⟨⟨t, t1, t2, t3⟩, t4⟩ := hrow
        rcases hc2 with rfl | rfl
        · exact ⟨⟨t, t1, t2, t3⟩, t4⟩
        · exact ⟨⟨t, t1, t2, t3⟩, t4⟩
      have ew : X 4 s < (upx (upx (upw X s (X 4 s) 2 (X 4 s + 1)) 15 (60 * s + X 4 s) cl) 16 (60 * s + X 4 s) b) 4 s := by show X 4 s < upw X s (X 4 s) 2 (X 4 s + 1) 4 s; rw [upw4, if_pos rfl]; omega
      have e9 : (upx (upx (upw X s (X 4 s) 2 (X 4 s + 1)) 15 (60 * s + X 4 s) cl) 16 (60 * s + X 4 s) b) 9 s < 2147483648 := by show upw X s (X 4 s) 2 (X 4 s + 1) 9 s < _; rw [upw9, if_pos rfl]; omega
      have ff : dW d s - 2 < FU := by unfold FU; omega
      obtain ⟨σ', ρ', v1, v2, v3⟩ := r_cols (x1 := x1) (x2 := x2) (x5 := nI b) (yb := nI cl) (f := nI 1) (z := 1) hB hs hk7 hc2 hn2 hoff rfl (by omega) (by omega) (Or.inl ⟨rfl, rfl⟩) (dW d s - 2) 2 FU FU _ _ _ (by omega) (Nat.le_refl _) ff ff ew rfl rfl rfl e9 e10 hrow2 hE
      exact ⟨X 4 s, σ', ρ', _, v1, v2, v3.close rfl (Nat.le_refl _), ew, upw_W2 h60⟩
end EN
