/-! WINDOWS: the row of a window -/
theorem row_put {σ : Zs} {p s w : Nat} {t : Int32} {f : Nat → Int64} {x : Int64} (h6 : w < 6) : fX6_append p s x (wRow σ p s t (nI w) f) = some ((), wRow σ p s t (nI (w + 1)) (fun j => if j = w then x else f j)) := by
  have e1 : zI (wRow σ p s t (nI w) f) 385 p s 0 = nI w := by rw [zI_wRow, if_neg (by omega), if_pos ⟨rfl, rfl, rfl, rfl⟩]
  have e2 : zI (wRow σ p s t (nI w) f) 384 p s 0 = t := by rw [zI_wRow, if_pos ⟨rfl, rfl, rfl, rfl⟩]
  rw [row_app e1 h6, wRow_w, e2]
  refine congrArg (fun g => some ((), wRow σ p s t (nI (w + 1)) g)) (funext fun j => ?_)
  by_cases h : j = w
  · rw [if_pos h, if_pos h]
  · rw [if_neg h, if_neg h, zJ_wRow, if_pos ⟨rfl, rfl, rfl⟩]
theorem win_cp {P s w m : Nat} {x2 t : Int32} {σ : Zs} (hw : w < 60) (hm : m ≤ 4) : ∀ (k y n : Nat) (f : Nat → Int64), y + k = m → k < n → fX10_copyTo_52 P s (nI w) x2 (nI m) 2 0 n (nI y) (wRow σ 2 0 t (nI (2 + y)) f) = some ((), wRow σ 2 0 t (nI (2 + m)) (fun j => if 2 + y ≤ j ∧ j < 2 + m then zJ σ 1669 P s (w * 4 + (j - 2)) else f j)) := by
  intro k
  induction k with
  | zero =>
    intro y n f h1 h2
    obtain ⟨n, rfl⟩ : ∃ j, n = j + 1 := ⟨n - 1, by omega⟩
    have e : y = m := by omega
    subst e
    rw [fX10_copyTo_52]
    have b : y ≤ y := Nat.le_refl _
    simp (disch := omega) only [n_le, b, ↓reduceIte]
    refine congrArg (fun g => some ((), wRow σ 2 0 t (nI (2 + y)) g)) (funext fun j => ?_)
    rw [if_neg (by omega)]
  | succ k ih =>
    intro y n f h1 h2
    obtain ⟨n, rfl⟩ : ∃ j, n = j + 1 := ⟨n - 1, by omega⟩
    rw [fX10_copyTo_52]
    have b1 : ¬ m ≤ y := by omega
    have b2 : ¬ 4 ≤ y := by omega
    have b3 : w * 4 + y < 240 := by omega
    simp (disch := omega) only [i_4, i_1, n_le, n_gi, n_cl, n_mul, n_add, b1, b2, b3, ↓reduceIte]
    rw [bq_e (row_put (by omega)), show 2 + y + 1 = 2 + (y + 1) by omega]
    rw [ih (y + 1) n _ (by omega) (by omega)]
    refine congrArg (fun g => some ((), wRow σ 2 0 t (nI (2 + m)) g)) (funext fun j => ?_)
    have e3 : zJ (wRow σ 2 0 t (nI (2 + y)) f) 1669 P s (w * 4 + y) = zJ σ 1669 P s (w * 4 + y) := rfl
    rw [e3]
    by_cases c : j = 2 + y
    · subst c
      rw [if_neg (by omega), if_pos rfl, if_pos (by omega), show 2 + y - 2 = y by omega]
    · by_cases c2 : 2 + (y + 1) ≤ j ∧ j < 2 + m
      · rw [if_pos c2, if_pos (by omega)]
      · rw [if_neg c2, if_neg c, if_neg (by omega)]
def wnF (σ : Zs) (P s w W : Nat) (b : Nat) (j : Nat) : Int64 := if 2 ≤ j ∧ j < W then zJ σ 1669 P s (w * 4 + (j - 2)) else if j = 1 then lN b else if j = 0 then zJ σ 1665 P s w else zJ σ 1410 2 0 j
theorem win_copy {P s w k W b n : Nat} {σ : Zs} (h640 : zI σ 640 P s 0 = nI k) (hk : k ≤ 60) (hw : w < k) (hW : 2 ≤ W) (hW6 : W ≤ 6) (he : zI σ 1666 P s w = nI (b + n)) (hb : b + n < 2147483648) : fX10_copyTo P s (nI w) (nI n) (nI (W - 2)) 2 0 σ = some ((), wRow σ 2 0 (nI (b + n)) (nI W) (wnF σ P s w W b)) := by
  unfold fX10_copyTo
  have a1 : ¬ w < 0 := by omega
  have a2 : w < 60 := by omega
  simp (disch := omega) only [i_0, h640, n_lt, n_gi, n_cl, a1, a2, hw, ↓reduceIte]
  rw [bq_e row_start, he]
  have e0 : zJ (wRow σ 2 0 (nI (b + n)) (nI 0) (zJ σ 1410 2 0)) 1665 P s w = zJ σ 1665 P s w := rfl
  simp (disch := omega) only [e0]
  rw [bq_e (row_put (by omega))]
  have e1 : ∀ w' f, zI (wRow σ 2 0 (nI (b + n)) w' f) 1666 P s w = nI (b + n) := fun w' f => he
  simp (disch := omega) only [e1, n_sub, Nat.add_sub_cancel, n_i64]
  rw [bq_e (row_put (by omega))]
  have := win_cp (P := P) (s := s) (w := w) (m := W - 2) (x2 := nI n) (t := nI (b + n)) (σ := σ) a2 (by omega) (W - 2) 0 FU (fun j => if j = 0 + 1 then lN b else if j = 0 then zJ σ 1665 P s w else zJ σ 1410 2 0 j) (by omega) (by unfold FU; omega)
  refine this.trans ?_
  rw [show 2 + (W - 2) = W by omega]
  refine congrArg (fun g => some ((), wRow σ 2 0 (nI (b + n)) (nI W) g)) (funext fun j => ?_)
  unfold wnF
  rfl
def woF (ρ : Zs) (s w W : Nat) (b n : Nat) (y : Nat) (j : Nat) : Int64 := if 3 ≤ j ∧ j < 1 + y then zJ ρ 1962 0 0 ((60 * s + w) * 6 + (j - 1)) else if j = 2 then lN b else if j = 1 then zJ ρ 1959 0 0 (60 * s + w) else if j = 0 then lN (b + n) else zJ ρ 1957 0 0 j
section WR
variable {P g : Nat} {d : Pd} {σ0 ρ0 : Zs} {τ : Prop} {X : Nat → Nat → Nat} {σ ρ : Zs} {s w y : Nat}
theorem off_l {W b n : Nat} (hs : s < 12) (hw : w < 60) (hW : W ≤ 6) (h98 : zR ρ 898 0 0 0 = (g, 0)) (h1795 : zI ρ 1795 g 0 s = nI W) : ∀ (k y m : Nat), y + k = W → 2 ≤ y → k < m → fX14_offerWindow_50 (nI s) (nI w) m (nI y) (jJ ρ 1957 0 0 (woF ρ s w W b n y)) = bq (fX14_offer (nI s) (jJ ρ 1957 0 0 (woF ρ s w W b n W))) (fun _ z => some ((), z)) := by
  intro k
  induction k with
  | zero =>
    intro y m h1 h2 h3
    obtain ⟨m, rfl⟩ : ∃ j, m = j + 1 := ⟨m - 1, by omega⟩
    have e : y = W := by omega
    subst e
    rw [fX14_offerWindow_50]
    have b : y ≤ y := Nat.le_refl _
    simp (disch := omega) only [zR_jJ, zI_jJ, h98, h1795, i_12, n_gi, n_cl, n_le, hs, b, ↓reduceIte]
  | succ k ih =>
    intro y m h1 h2 h3
    obtain ⟨m, rfl⟩ : ∃ j, m = j + 1 := ⟨m - 1, by omega⟩
    rw [fX14_offerWindow_50]
    have b1 : ¬ W ≤ y := by omega
    have b2 : (60 * s + w) * 6 + y < 4320 := by omega
    have b3 : 1 + y < 7 := by omega
    simp (disch := omega) only [zR_jJ, zI_jJ, h98, h1795, i_1, i_6, i_12, i_60, n_mul, n_add, n_gi, n_cl, n_le, hs, b1, b2, b3, ↓reduceIte, lt_k]
    rw [sJ_j, jJ_jJ]
    rw [← ih (y + 1) m (by omega) (by omega) (by omega)]
    refine congrArg (fun f => fX14_offerWindow_50 (nI s) (nI w) m (nI (y + 1)) (jJ ρ 1957 0 0 f)) (funext fun j => ?_)
    have e4 : zJ (jJ ρ 1957 0 0 (woF ρ s w W b n y)) 1962 0 0 ((60 * s + w) * 6 + y) = zJ ρ 1962 0 0 ((60 * s + w) * 6 + y) := rfl
    have e5 : zJ (jJ ρ 1957 0 0 (woF ρ s w W b n y)) 1957 0 0 j = woF ρ s w W b n y j := by rw [zJ_jJ, if_pos ⟨rfl, rfl, rfl⟩]
    rw [e4, e5]
    unfold woF
    by_cases c : j = 1 + y
    · subst c
      rw [if_pos rfl, if_pos (by omega), show 1 + y - 1 = y by omega]
    · by_cases c2 : 3 ≤ j ∧ j < 1 + y
      · rw [if_neg c, if_pos c2, if_pos (by omega)]
      · rw [if_neg c, if_neg c2, if_neg (show ¬ (3 ≤ j ∧ j < 1 + (y + 1)) by omega)]
theorem off_W {W b n : Nat} (hs : s < 12) (hw : w < 60) (hW2 : 2 ≤ W) (hW : W ≤ 6) (h98 : zR ρ 898 0 0 0 = (g, 0)) (h1795 : zI ρ 1795 g 0 s = nI W) (h1799 : zI ρ 1799 g 0 s = nI n) (hb : zI ρ 1960 0 0 (60 * s + w) = nI b) (hbn : b + n < 2147483648) : fX14_offerWindow (nI s) (nI w) ρ = bq (fX14_offer (nI s) (jJ ρ 1957 0 0 (woF ρ s w W b n W))) (fun _ z => some ((), z)) := by
  unfold fX14_offerWindow fX14_endOf
  have b2 : 60 * s + w < 720 := by omega
  have c0 : (0 : Nat) < 7 := by decide
  have c1 : (1 : Nat) < 7 := by decide
  have c2 : (2 : Nat) < 7 := by decide
  have e0 : ∀ x, zI (sJ ρ 1957 0 0 0 x) 1960 0 0 (60 * s + w) = nI b := fun _ => hb
  simp (disch := omega) only [h98, h1799, hb, i_0, i_1, i_2, i_12, i_60, n_mul, n_add, n_gi, n_cl, hs, b2, c0, c1, c2, ↓reduceIte, lt_k, bq_s, zI_sJ, n_i64]
  rw [← off_l hs hw hW h98 h1795 (W - 2) 2 FU (by omega) (by omega) (by unfold FU; omega)]
  refine congrArg (fun z => fX14_offerWindow_50 (nI s) (nI w) FU (nI 2) z) (zs_ext (fun _ _ _ _ => rfl) (fun c p q i => ?_) (fun _ _ _ _ => rfl))
  simp only [zJ_sJ, zJ_jJ, woF]
  grind
/-- a window's row: of the class, of the law -/
theorem r_wrow (hB : EB P g d σ0 ρ0) (h : ER P d σ0 ρ0 τ X σ ρ) (hs : s < dN d) (hk7 : dK d s = 7) (h12 : X 12 0 = 0) (hw : w < X 4 s) :
    ∃ σ1 ρ1 t, fX10_copyTo P s (nI w) (zI σ 455 P s 0) ((zI σ 450 P s 0) - 2) 2 0 σ = some ((), σ1) ∧ fX14_offerWindow (nI s) (nI w) ρ = bq (fX14_offer (nI s) ρ1) (fun _ z => some ((), z)) ∧ ER P d σ0 ρ0 τ X σ1 ρ ∧ ER P d σ0 ρ0 τ X σ1 ρ1 ∧ RW 2 0 t (dW d s) σ1 ρ1 ∧ t ≤ TB s := by
  obtain ⟨hW, hPC, hPR, hz, hz3, hP⟩ := hB.fr h
  have hC := hPC.2.2.choose_spec.2.2.1 s hs
  have hR := hPR.2.2.1 s hs
  obtain ⟨b, z, cl, hb0, hc0, k1, k2, k3, k4, k5, k6, k7, k8, k9, k10, k11, k12⟩ := (h.2.2.2.2.2.1 s hs).2.2.2.2 w hw
  have h60 := (h.2.2.2.2.2.1 s hs).1
  have h640 := (h.2.2.2.2.2.1 s hs).2.2.1
  have hN := hW.n
  have w6 := hW.w6 hs
  obtain ⟨o1, o2, o3, hop⟩ := (hW.2.2.1 s hs).2.2.2.2.2.2.2.2.2.2.2.2.2 hk7
  have hTB : TB s < 2000000 := by unfold TB; omega
  have h455 : zI σ 455 P s 0 = nI (dS d s) := hC.2.2.2.2.2.2.2.2.1 (Or.inr (by omega))
  have h1799 : zI ρ 1799 g 0 s = nI (dS d s) := hR.2.2.2.2.2.2.2.2.1 (Or.inr (by omega))
  rw [h455, hC.2.2.1, i_2, n_sub o3]
  refine ⟨_, _, b + dS d s, win_copy h640 h60 hw o3 w6 k3 (by omega), off_W (by omega) (by omega) o3 w6 hz3 hR.2.2.1 h1799 k4 (by omega), h.r2, (h.r2).k57, ⟨?_, ?_, ?_, fun i hi => ?_⟩, k1⟩
  · rw [zI_wRow, if_pos ⟨rfl, rfl, rfl, rfl⟩]
  · rw [zI_wRow, if_neg (by omega), if_pos ⟨rfl, rfl, rfl, rfl⟩]
  · rw [zJ_jJ, if_pos ⟨rfl, rfl, rfl⟩]
    unfold woF
    rw [if_neg (by omega), if_neg (by omega), if_neg (by omega), if_pos rfl]
  · rw [zJ_wRow, if_pos ⟨rfl, rfl, rfl⟩, zJ_jJ, if_pos ⟨rfl, rfl, rfl⟩]
    unfold wnF woF
    by_cases c0 : i = 0
    · subst c0
      rw [if_neg (by omega), if_neg (by omega), if_pos rfl, if_neg (by omega), if_neg (by omega), if_pos (by omega)]; exact k2
    · by_cases c1 : i = 1
      · subst c1
        rw [if_neg (by omega), if_pos rfl, if_neg (by omega), if_pos (by omega)]
      · rw [if_pos (by omega), if_pos (by omega), show 1 + i - 1 = i by omega]
        exact ((k12 i (by omega) hi).1 (EHo.no h12)).1
end WR
