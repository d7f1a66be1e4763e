/-! ROWS THAT ARE HELD; the stream would get a row -/
def holdC (σ : Zs) (q p3 s3 : Nat) (s x : Int32) (h : Nat) : Zs := sI (sI (sI (wRow σ 4 q (zI σ 384 p3 s3 0) (zI σ 385 p3 s3 0) (fun j => if j < 6 then zJ σ 1410 p3 s3 j else zJ σ 1410 4 q j)) 387 4 q 0 s) 388 4 q 0 x) 66 0 0 0 (nI (h + 1))
def holdR (ρ : Zs) (s x : Int32) (h : Nat) : Zs := sI (jJ (sI (sI ρ 1948 0 0 h s) 1949 0 0 h x) 1950 0 0 (va_cpy (zJ ρ 1957 0 0) (zJ ρ 1950 0 0) 0 (7 * h) 7)) 923 0 0 0 (nI (h + 1))
theorem hold_C {σ : Zs} {q p3 s3 h : Nat} {s x : Int32} (h60 : h < 60) (hh : zI σ 66 0 0 0 = nI h) (hq : zR σ 1089 0 0 h = (4, q)) (hne : ¬ p3 = 4) : fX1_hold s x p3 s3 σ = some ((), holdC σ q p3 s3 s x h) := by
  unfold fX1_hold
  have b1 : h < 60 := h60
  simp (disch := omega) only [i_60, i_1, n_lt, n_gi, n_cl, n_add, hh, hq, b1, ↓reduceIte]
  rw [bq_e (row_copy (fun q => hne q.1))]
  simp (disch := omega) only [zI_wRow, zR_wRow, zI_sI, zR_sI, hh, hq, n_gi, n_cl, n_add, b1, ↓reduceIte, lt_k]
  have e1 : ¬ (66 = 388) := by decide
  have e2 : ¬ (66 = 387) := by decide
  have e3 : ¬ (66 = 384) := by decide
  have e4 : ¬ (66 = 385) := by decide
  simp (disch := omega) only [e1, e2, e3, e4, false_and, hh, n_gi, n_cl, n_add, b1, ↓reduceIte, lt_k, zR_sI, zR_wRow, hq, zI_sI, zI_wRow]
  rfl
theorem hold_Cf {σ : Zs} {p3 s3 : Nat} {s x : Int32} (hh : zI σ 66 0 0 0 = nI 60) : fX1_hold s x p3 s3 σ = some ((), sI σ 67 0 0 0 (zI σ 67 0 0 0 + 1)) := by
  unfold fX1_hold
  have b1 : ¬ (60 : Nat) < 60 := by decide
  simp (disch := omega) only [i_60, n_lt, hh, b1, ↓reduceIte, lt_k]
theorem hold_R {ρ : Zs} {h : Nat} {s x : Int32} (h60 : h < 60) (hh : zI ρ 923 0 0 0 = nI h) : fX14_hold s x ρ = some ((), holdR ρ s x h) := by
  unfold fX14_hold
  have b1 : h < 60 := h60
  have b2 : ¬ h = 60 := by omega
  have b3 : 0 + 7 ≤ 7 := by omega
  have b4 : 7 * h + 7 ≤ 420 := by omega
  have e1 : ¬ (923 = 1948) := by decide
  have e2 : ¬ (923 = 1949) := by decide
  simp (disch := omega) only [i_60, n_eq, n_gi, n_cl, hh, b1, b2, ↓reduceIte, lt_k, zI_sI, e1, e2, false_and]
  simp (disch := omega) only [i_0, i_1, i_7, n_mul, n_add, n_gcp, n_cl, b3, b4, and_self, ↓reduceIte, sC_j, zI_jJ, zI_sI, e1, e2, false_and, hh]
  rfl
theorem hold_Rf {ρ : Zs} {s x : Int32} (hh : zI ρ 923 0 0 0 = nI 60) : fX14_hold s x ρ = some ((), sI ρ 928 0 0 0 (zI ρ 928 0 0 0 + 1)) := by
  unfold fX14_hold
  simp (disch := omega) only [i_60, n_eq, hh, ↓reduceIte, lt_k]
section HO
variable {P : Nat} {d : Pd} {σ0 ρ0 : Zs} {τ : Prop} {X : Nat → Nat → Nat} {σ ρ : Zs} {s p3 s3 t w : Nat} {x : Int32}
theorem WFd.w6 (hW : WFd d) {s : Nat} (hs : s < dN d) : dW d s ≤ 6 := (hW.2.2.1 s hs).2.2.1
theorem WFd.a (hW : WFd d) {s : Nat} (hs : s < dN d) (hk : dK d s ≠ 0) : dA d s < s := (hW.2.2.1 s hs).2.2.2.2.2.1 hk
theorem WFd.n (hW : WFd d) : dN d ≤ 12 := hW.1
theorem ER.hold (hW : WFd d) (h : ER P d σ0 ρ0 τ X σ ρ) (hs : s < dN d) (h60 : X 5 0 < 60) (hw : RW p3 s3 t w σ ρ) (hw6 : w ≤ 6) (ht : t ≤ TB s) (hp3 : ¬ p3 = 4)
    (hx : (x = -nI 1 ∧ dK d s = 7 ∧ w = dW d (dA d s) ∧ t ≤ TB (dA d s) ∧ t / dS d s * dS d s + dS d s + 1 ≤ X 3 s) ∨ (∃ c, c < dM d ∧ x = nI c ∧ w = dW d s)) :
    ∃ q, zR σ 1089 0 0 (X 5 0) = (4, q) ∧ ER P d σ0 ρ0 τ (upx X 5 0 (X 5 0 + 1)) (holdC σ q p3 s3 (nI s) x (X 5 0)) (holdR ρ (nI s) x (X 5 0)) := by
  obtain ⟨hT, hFC, hFR, hTab, hSeen, hWin, ⟨hh1, hh2, hh3, π, p1, p2, p3'⟩, hChk, hSc, hGiv⟩ := h
  refine ⟨π (X 5 0), (p1 _ h60).2, hT, ?_, ?_, hTab, hSeen, hWin, ?_, hChk, hSc, hGiv⟩
  · unfold holdC
    exact EFC.I (EFC.I (EFC.I (EFC.W hFC (by omega)) (by simp [wC])) (by simp [wC])) (by simp [wC])
  · unfold holdR
    exact EFR.I (EFR.K (EFR.I (EFR.I hFR (by decide)) (by decide)) (by decide)) (by decide)
  · have eu : upx X 5 0 (X 5 0 + 1) 5 0 = X 5 0 + 1 := if_pos ⟨rfl, rfl⟩
    have eu3 : upx X 5 0 (X 5 0 + 1) 3 = X 3 := rfl
    refine ⟨by omega, ?_, ?_, π, p1, p2, fun j hj => ?_⟩
    · rw [eu]; rfl
    · rw [eu]; rfl
    · rw [eu] at hj
      by_cases e : j = X 5 0
      · subst e
        refine ⟨s, t, w, hs, ?_, ?_, ht, ?_, ?_, ?_, fun c hc => ?_, ?_⟩
        · show (if 387 = 387 ∧ 4 = 4 ∧ π (X 5 0) = π (X 5 0) ∧ 0 = 0 then _ else _) = _
          rw [if_pos ⟨rfl, rfl, rfl, rfl⟩]
        · show (if 1948 = 1948 ∧ 0 = 0 ∧ 0 = 0 ∧ X 5 0 = X 5 0 then _ else _) = _
          rw [if_pos ⟨rfl, rfl, rfl, rfl⟩]
        · show (if 384 = 384 ∧ 4 = 4 ∧ π (X 5 0) = π (X 5 0) ∧ 0 = 0 then _ else _) = _
          rw [if_pos ⟨rfl, rfl, rfl, rfl⟩]; exact hw.1
        · show va_cpy (zJ ρ 1957 0 0) _ 0 (7 * X 5 0) 7 (7 * X 5 0) = _
          rw [pk_cpy_in (by omega) (by omega), Nat.sub_self]; exact hw.2.2.1
        · show (if 385 = 385 ∧ 4 = 4 ∧ π (X 5 0) = π (X 5 0) ∧ 0 = 0 then _ else _) = _
          rw [if_pos ⟨rfl, rfl, rfl, rfl⟩]; exact hw.2.1
        · show (if 1410 = 1410 ∧ 4 = 4 ∧ π (X 5 0) = π (X 5 0) then (if c < 6 then _ else _) else _) = va_cpy (zJ ρ 1957 0 0) _ 0 (7 * X 5 0) 7 (7 * X 5 0 + 1 + c)
          rw [if_pos ⟨rfl, rfl, rfl⟩, if_pos (by omega), pk_cpy_in (by omega) (by omega), show 0 + (7 * X 5 0 + 1 + c - 7 * X 5 0) = 1 + c by omega]
          exact hw.2.2.2 c hc
        · have e8 : zI (holdC σ (π (X 5 0)) p3 s3 (nI s) x (X 5 0)) 388 4 (π (X 5 0)) 0 = x := by
            show (if 388 = 388 ∧ 4 = 4 ∧ π (X 5 0) = π (X 5 0) ∧ 0 = 0 then _ else _) = _
            rw [if_pos ⟨rfl, rfl, rfl, rfl⟩]
          have e9 : zI (holdR ρ (nI s) x (X 5 0)) 1949 0 0 (X 5 0) = x := by
            show (if 1949 = 1949 ∧ 0 = 0 ∧ 0 = 0 ∧ X 5 0 = X 5 0 then _ else _) = _
            rw [if_pos ⟨rfl, rfl, rfl, rfl⟩]
          rw [e8, e9, eu3]
          rcases hx with ⟨x1, x2, x3, x4, x5⟩ | ⟨c, c1, c2, c3⟩
          · exact Or.inl ⟨x1, x1, x2, x3, x4, x5⟩
          · exact Or.inr ⟨c, c1, c2, c2, c3⟩
      · obtain ⟨s1, t1, w1, k1, k2, k3, k4, k5, k6, k7, k8, k9⟩ := p3' j (by omega)
        have hpi : ¬ π j = π (X 5 0) := fun q => e (p2 _ _ (by omega) h60 q)
        have hjl : j < X 5 0 := by clear hx k9; omega
        have hw1 : w1 ≤ 6 := by
          rcases k9 with ⟨_, _, x3, x4, _⟩ | ⟨_, _, _, _, x4⟩
          · rw [x4]; exact hW.w6 (Nat.lt_trans (hW.a k1 (by rw [x3]; decide)) k1)
          · rw [x4]; exact hW.w6 k1
        refine ⟨s1, t1, w1, k1, ?_, ?_, k4, ?_, ?_, ?_, fun c hc => ?_, ?_⟩
        · show (if 387 = 387 ∧ 4 = 4 ∧ π j = π (X 5 0) ∧ 0 = 0 then _ else _) = _
          rw [if_neg (fun q => hpi q.2.2.1)]; exact k2
        · show (if 1948 = 1948 ∧ 0 = 0 ∧ 0 = 0 ∧ j = X 5 0 then _ else _) = _
          rw [if_neg (fun q => e q.2.2.2)]; exact k3
        · show (if 384 = 384 ∧ 4 = 4 ∧ π j = π (X 5 0) ∧ 0 = 0 then _ else _) = _
          rw [if_neg (fun q => hpi q.2.2.1)]; exact k5
        · show va_cpy (zJ ρ 1957 0 0) _ 0 (7 * X 5 0) 7 (7 * j) = _
          rw [pk_cpy_out (Or.inl (by clear k9 p3' hx; omega))]; exact k6
        · show (if 385 = 385 ∧ 4 = 4 ∧ π j = π (X 5 0) ∧ 0 = 0 then _ else _) = _
          rw [if_neg (fun q => hpi q.2.2.1)]; exact k7
        · show (if 1410 = 1410 ∧ 4 = 4 ∧ π j = π (X 5 0) then _ else _) = va_cpy (zJ ρ 1957 0 0) _ 0 (7 * X 5 0) 7 (7 * j + 1 + c)
          rw [if_neg (fun q => hpi q.2.2), pk_cpy_out (Or.inl (by clear k9 p3' hx; omega))]
          exact k8 c hc
        · have e8 : zI (holdC σ (π (X 5 0)) p3 s3 (nI s) x (X 5 0)) 388 4 (π j) 0 = zI σ 388 4 (π j) 0 := by
            show (if 388 = 388 ∧ 4 = 4 ∧ π j = π (X 5 0) ∧ 0 = 0 then _ else _) = _
            rw [if_neg (fun q => hpi q.2.2.1)]; rfl
          have e9 : zI (holdR ρ (nI s) x (X 5 0)) 1949 0 0 j = zI ρ 1949 0 0 j := by
            show (if 1949 = 1949 ∧ 0 = 0 ∧ 0 = 0 ∧ j = X 5 0 then _ else _) = _
            rw [if_neg (fun q => e q.2.2.2)]; rfl
          rw [e8, e9, eu3]
          exact k9
/-- a row is held: both sides -/
theorem r_hold (hW : WFd d) (h : ER P d σ0 ρ0 τ X σ ρ) (hs : s < dN d) (hw : RW p3 s3 t w σ ρ) (hw6 : w ≤ 6) (ht : t ≤ TB s) (hp3 : ¬ p3 = 4)
    (hx : (x = -nI 1 ∧ dK d s = 7 ∧ w = dW d (dA d s) ∧ t ≤ TB (dA d s) ∧ t / dS d s * dS d s + dS d s + 1 ≤ X 3 s) ∨ (∃ c, c < dM d ∧ x = nI c ∧ w = dW d s)) :
    ∃ σ' ρ' X', fX1_hold (nI s) x p3 s3 σ = some ((), σ') ∧ fX14_hold (nI s) x ρ = some ((), ρ') ∧ ER P d σ0 ρ0 τ X' σ' ρ' ∧ XO s X X' ∧ zI σ' 1 = zI σ 1 ∧ zI ρ' 1808 = zI ρ 1808 ∧ zR ρ' 898 = zR ρ 898 ∧ (∀ v, fX1_hold (nI s) x p3 s3 (sI σ 68 0 0 0 v) = some ((), sI σ' 68 0 0 0 v)) := by
  have hH := h.2.2.2.2.2.2.1
  by_cases e : X 5 0 = 60
  · have e1 : zI σ 66 0 0 0 = nI 60 := by rw [hH.2.1, e]
    have e2 : zI ρ 923 0 0 0 = nI 60 := by rw [hH.2.2.1, e]
    refine ⟨_, _, X, hold_Cf e1, hold_Rf e2, h.lost, XO.rf, rfl, rfl, rfl, fun v => ?_⟩
    rw [hold_Cf (by exact e1)]
    refine congrArg (fun z => some ((), z)) (zs_ext (fun c p s i => ?_) (fun _ _ _ _ => rfl) (fun _ _ _ _ => rfl))
    simp only [zI_sI]
    grind
  · have h60 : X 5 0 < 60 := by have := hH.1; omega
    obtain ⟨q, hq, hE⟩ := ER.hold hW h hs h60 hw hw6 ht hp3 hx
    refine ⟨_, _, upx X 5 0 (X 5 0 + 1), hold_C h60 hH.2.1 hq hp3, hold_R h60 hH.2.2.1, hE, ⟨fun k i _ hk => if_neg (fun w => hk w.1), Nat.le_refl _⟩, rfl, rfl, rfl, fun v => ?_⟩
    rw [hold_C h60 (by exact hH.2.1) (by exact hq) hp3]
    refine congrArg (fun z => some ((), z)) (zs_ext (fun c p s i => ?_) (fun _ _ _ _ => rfl) (fun _ _ _ _ => rfl))
    unfold holdC
    simp only [zI_sI, zI_wRow]
    grind
theorem ER.stop (h : ER P d σ0 ρ0 τ X σ ρ) {b : Nat} (hb : b ≤ 1) : ER P d σ0 ρ0 τ X (sI σ 68 0 0 0 (nI b)) (sI ρ 929 0 0 0 (nI b)) := by
  obtain ⟨hT, hFC, hFR, hTab, hSeen, hWin, hHeld, hChk, hSc, hGiv⟩ := h
  exact ⟨hT, hFC.I (by simp [wC]), hFR.I (by decide), hTab, hSeen, hWin, hHeld, hChk, ⟨hSc.1, ⟨b, hb, rfl, rfl⟩, hSc.2.2⟩, hGiv⟩
theorem ER.brk (h : ER P d σ0 ρ0 τ X σ ρ) (c : Nat) (v : Int32) (w : Int32) (e : v = w) : ER P d σ0 ρ0 τ X (sI σ 4 P c 0 v) (sI ρ 1951 0 0 c w) := by
  obtain ⟨hT, hFC, hFR, hTab, hSeen, hWin, hHeld, hChk, hSc, hGiv⟩ := h
  refine ⟨hT, hFC.I (by simp [wC]), hFR.I (by decide), hTab, hSeen, hWin, hHeld, fun a ha => ?_, hSc, hGiv⟩
  rw [zI_sI, zI_sI]
  by_cases q : a = c
  · rw [if_pos ⟨rfl, rfl, q, rfl⟩, if_pos ⟨rfl, rfl, rfl, q⟩]; exact e
  · rw [if_neg (fun w => q w.2.2.1), if_neg (fun w => q w.2.2.2)]; exact hChk a ha
end HO
