/-! AN ENTRY IS DONE AGAIN; the whole log -/
/-- the place of a name -/
def nix (f : Nat → Int64) (w : Int64) : Nat → Nat → Int32
  | 0, _ => -nI 1
  | k + 1, y => if f y = w then nI y else nix f w k (y + 1)
theorem nix_c {f g : Nat → Int64} {w : Int64} : ∀ (k y : Nat), (∀ s, y ≤ s → s < y + k → f s = g s) → nix f w k y = nix g w k y := by
  intro k
  induction k with
  | zero => intro y _; rfl
  | succ k ih =>
    intro y h
    unfold nix
    rw [h y (Nat.le_refl _) (by omega), ih (y + 1) (fun s h1 h2 => h s (by omega) (by omega))]
theorem nix_s {f : Nat → Int64} {w : Int64} : ∀ (k y : Nat), (nix f w k y = -nI 1 ∧ ∀ s, y ≤ s → s < y + k → f s ≠ w) ∨ ∃ s, y ≤ s ∧ s < y + k ∧ f s = w ∧ nix f w k y = nI s ∧ ∀ j, y ≤ j → j < s → f j ≠ w := by
  intro k
  induction k with
  | zero => intro y; exact Or.inl ⟨rfl, fun s h1 h2 => by omega⟩
  | succ k ih =>
    intro y
    unfold nix
    by_cases e : f y = w
    · rw [if_pos e]
      exact Or.inr ⟨y, Nat.le_refl _, by omega, e, rfl, fun j h1 h2 => by omega⟩
    · rw [if_neg e]
      rcases ih (y + 1) with ⟨h1, h2⟩ | ⟨s, h1, h2, h3, h4, h5⟩
      · refine Or.inl ⟨h1, fun s h3 h4 => ?_⟩
        by_cases q : s = y
        · rw [q]; exact e
        · exact h2 s (by omega) (by omega)
      · refine Or.inr ⟨s, by omega, by omega, h3, h4, fun j h6 h7 => ?_⟩
        by_cases q : j = y
        · rw [q]; exact e
        · exact h5 j (by omega) h7
theorem name_C {p N : Nat} {w : Int64} {σ : Zs} (hN : N ≤ 12) (h : zI σ 321 p 0 0 = nI N) : fX5_streamNamed p w σ = some (nix (fun s => zJ σ 448 p s 0) w N 0, σ) := by
  have l : ∀ (k y n : Nat), y + k = N → k < n → fX5_streamNamed_2 p w n (nI y) σ = some (nix (fun s => zJ σ 448 p s 0) w k y, σ) := by
    intro k
    induction k with
    | zero =>
      intro y n h1 h2
      obtain ⟨n, rfl⟩ : ∃ j, n = j + 1 := ⟨n - 1, by omega⟩
      have b : N ≤ y := by omega
      rw [fX5_streamNamed_2]
      simp (disch := omega) only [h, i_1, n_le, b, ↓reduceIte]
      rfl
    | succ k ih =>
      intro y n h1 h2
      obtain ⟨n, rfl⟩ : ∃ j, n = j + 1 := ⟨n - 1, by omega⟩
      have b1 : ¬ N ≤ y := by omega
      have b2 : ¬ 12 ≤ y := by omega
      have b3 : y < 12 := by omega
      rw [fX5_streamNamed_2]
      simp (disch := omega) only [h, i_1, i_12, n_add, n_le, n_gi, n_cl, b1, b2, b3, ↓reduceIte]
      unfold nix
      by_cases e : zJ σ 448 p y 0 = w
      · rw [if_pos (l_cmp0.mpr e), if_pos e]
      · rw [if_neg (fun z => e (l_cmp0.mp z)), if_neg e, ih (y + 1) n (by omega) (by omega)]
  unfold fX5_streamNamed
  rw [i_0]
  exact l N 0 FU (by omega) (by unfold FU; omega)
theorem name_R {c p s n0 off N : Nat} {w : Int64} {ρ : Zs} (hN : N < 10000) (hn0 : n0 < 2147483648) (hoff : off + N ≤ n0) : fX14_indexOf c p s n0 (nI off) (nI N) w ρ = some (nix (fun i => zJ ρ c p s (off + i)) w N 0, ρ) := by
  have l : ∀ (k y n : Nat), y + k = N → k < n → fX14_indexOf_3 c p s n0 (nI off) (nI N) w n (nI y) ρ = some (nix (fun i => zJ ρ c p s (off + i)) w k y, ρ) := by
    intro k
    induction k with
    | zero =>
      intro y n h1 h2
      obtain ⟨n, rfl⟩ : ∃ j, n = j + 1 := ⟨n - 1, by omega⟩
      have b : N ≤ y := by omega
      rw [fX14_indexOf_3]
      simp (disch := omega) only [i_1, n_le, b, ↓reduceIte]
      rfl
    | succ k ih =>
      intro y n h1 h2
      obtain ⟨n, rfl⟩ : ∃ j, n = j + 1 := ⟨n - 1, by omega⟩
      have b1 : ¬ N ≤ y := by omega
      have b3 : off + y < n0 := by omega
      rw [fX14_indexOf_3]
      simp (disch := omega) only [i_1, n_add, n_le, n_gi, n_cl, b1, b3, ↓reduceIte]
      unfold nix
      by_cases e : zJ ρ c p s (off + y) = w
      · rw [if_pos (l_cmp0.mpr e), if_pos e]
      · rw [if_neg (fun z => e (l_cmp0.mp z)), if_neg e, ih (y + 1) n (by omega) (by omega)]
  unfold fX14_indexOf
  rw [i_0]
  exact l N 0 FU (by omega) (by unfold FU; omega)
theorem Ent.fr {P e : Nat} {σ ρ σ' ρ' : Zs} (h : Ent σ ρ e) (f : EFC P σ σ') (k : EFR ρ ρ') : Ent σ' ρ' e := by
  obtain ⟨kd, h1, h2, h3, h4, h5⟩ := h
  refine ⟨kd, h1, ((f 128 0 (by simp [wC]) e 0).1).trans h2, ((k 1965 (by decide) 0 0 e).1).trans h3, fun q => ?_, fun q => ?_⟩
  · obtain ⟨t, w, a1, a2, a3, a4, a5, a6, a7, a8⟩ := h4 q
    refine ⟨t, w, ?_, a2, ((f 384 5 (by simp [wC]) e 0).1).trans a3, ((k 1966 (by decide) 0 0 e).1).trans a4, a5, ((f 385 5 (by simp [wC]) e 0).1).trans a6, ((k 1967 (by decide) 0 0 e).1).trans a7, fun c hc => ?_⟩
    · rw [(f 129 0 (by simp [wC]) e 0).2.1, (k 1968 (by decide) 0 0 e).2.1]; exact a1
    · rw [(f 1410 5 (by simp [wC]) e c).2.1, (k 1969 (by decide) 0 0 _).2.1]; exact a8 c hc
  · obtain ⟨a, a1, a2, a3⟩ := h5 q
    exact ⟨a, a1, ((f 131 0 (by simp [wC]) e 0).1).trans a2, ((k 1966 (by decide) 0 0 e).1).trans a3⟩
theorem nb1 {b : Nat} (hb : b < 2147483648) : (nI b - 1 : Int32).toInt = (b : Int) - 1 := by
  by_cases q : b = 0
  · subst q; rfl
  · rw [i_1, n_sub (by omega), nI_toInt (by omega)]; omega
theorem isIn_R {a b : Nat} {ρ : Zs} (ha : a < 2147483648) (hb : b < 2147483648) : fX14_isIn (nI a).toInt64 0 ((nI b - 1 : Int32).toInt64) ρ = some (if a < b then 1 else 0, ρ) := by
  unfold fX14_isIn
  have h0 : (0 : Int64).toInt = 0 := rfl
  have c1 : ¬ (lg_cmp (nI a).toInt64 0 : Int32) < 0 := by
    rw [l_cmplt, Int64.lt_iff_toInt_lt, Int32.toInt_toInt64, nI_toInt ha, h0]; omega
  have c2 : 0 < (lg_cmp (nI a).toInt64 ((nI b - 1 : Int32).toInt64) : Int32) ↔ b ≤ a := by
    rw [l_cmpgt, Int64.lt_iff_toInt_lt, Int32.toInt_toInt64, Int32.toInt_toInt64, nI_toInt ha, nb1 hb]; omega
  rw [if_neg c1]
  by_cases e : a < b
  · rw [if_neg (fun z => by have := c2.mp z; omega), if_pos e]
  · rw [if_pos (c2.mpr (by omega)), if_neg e]
section AG
variable {P g : Nat} {d : Pd} {σ0 ρ0 : Zs} {τ : Prop} {X : Nat → Nat → Nat} {σ ρ : Zs} {s e t w E : Nat}
theorem Setl.mono {X' : Nat → Nat → Nat} (h : Setl d X) (hk : ∀ k i, k ≠ 5 → X' k i = X k i) : Setl d X' := by
  intro s hs hk0
  obtain ⟨h1, h2, h3, h4⟩ := h s hs hk0
  unfold Fin7 WSet
  rw [hk 7 s (by decide), hk 8 s (by decide), hk 3 s (by decide), hk 3 _ (by decide), hk 3 _ (by decide), hk 0 _ (by decide), hk 0 _ (by decide), hk 4 s (by decide)]
  refine ⟨h1, h2, h3, fun q w hw => ?_⟩
  rw [hk 15 _ (by decide), hk 16 _ (by decide)]
  exact h4 q w hw
/-- a held row goes away -/
theorem r_away (hB : EB P g d σ0 ρ0) (h : ER P d σ0 ρ0 τ X σ ρ) (hG : Good d E X) (hF : Setl d X) {a : Nat} (ha : a < X 5 0) :
    ∃ σ' ρ' X', fX1_removeHeld (nI a) σ = some (1, σ') ∧ fX14_takeOut (nI a) ρ = some ((), ρ') ∧ ER P d σ0 ρ0 τ X' σ' ρ' ∧ Good d E X' ∧ Setl d X' ∧ X' 5 0 = X 5 0 - 1 := by
  obtain ⟨hh1, hh2, hh3, π, p1, p2, p3⟩ := h.2.2.2.2.2.2.1
  refine ⟨_, _, _, take_C hh1 ha hh2 (p1 a (by omega)).2, take_R hh1 ha hh3, h.take hB.1 ha, ?_, ?_, upx_p⟩
  · exact hG.mono (upx_n (by omega)) (fun k i q => upx_n (by omega)) (fun i => by rw [upx_n (by omega)]; exact Nat.le_refl _) (fun i => by rw [upx_n (by omega)]; exact Nat.le_refl _) (fun i _ _ => upx_n (by omega))
  · exact hF.mono (fun k i q => upx_n (by omega))
theorem r_again (hB : EB P g d σ0 ρ0) (h : ER P d σ0 ρ0 τ X σ ρ) (hG : Good d E X) (hF : Setl d X) (hE : E + 1 ≤ 1000) (he : e < 200) (hEn : Ent σ ρ e) :
    ∃ v σ2 σ' u ρ' X', fX1_perform e σ = some (v, σ2) ∧ fX14_again (nI e) ρ = some (u, ρ') ∧ ((v = 0 ∧ u = 1 ∧ σ' = σ2) ∨ (v = 1 ∧ u = 0 ∧ fX1_runSteps σ2 = some ((), σ'))) ∧ ER P d σ0 ρ0 False X' σ' ρ' ∧ Good d (E + 1) X' ∧ Setl d X' := by
  obtain ⟨hW, hPC, hPR, hz, hz3, hP⟩ := hB.fr h
  have hN := hW.n
  obtain ⟨k, k1, k2, k3, k4, k5⟩ := hEn
  have hb := h.2.2.2.2.2.2.2.2.1.2.1
  obtain ⟨b, b1, b2, b3⟩ := hb
  obtain ⟨hh1, hh2, hh3, _⟩ := h.2.2.2.2.2.2.1
  have z128 : zI (sI σ 70 0 0 0 0) 128 0 e 0 = nI k := k2
  have hA : ER P d σ0 ρ0 False X (sI σ 70 0 0 0 0) ρ := h.a70
  have hG1 : Good d (E + 1) X := hG.up (Nat.le_succ E)
  unfold fX1_perform fX14_again
  rw [lt_k, z128]
  simp (disch := omega) only [n_gi, n_cl, he, ↓reduceIte, k3]
  have d0 : ∀ j, j ≤ 3 → ((nI j : Int32) = 0 ↔ j = 0) := fun j hj => by rw [i_0, n_eq (by omega) (by omega)]
  have d1 : ∀ j, j ≤ 3 → ((nI j : Int32) = 1 ↔ j = 1) := fun j hj => by rw [i_1, n_eq (by omega) (by omega)]
  have d2 : ∀ j, j ≤ 3 → ((nI j : Int32) = 2 ↔ j = 2) := fun j hj => by rw [i_2, n_eq (by omega) (by omega)]
  have d3 : ∀ j, j ≤ 3 → ((nI j : Int32) = 3 ↔ j = 3) := fun j hj => by rw [i_3, n_eq (by omega) (by omega)]
  by_cases e0 : k = 0
  · obtain ⟨t, w, hr⟩ := k4 e0
    obtain ⟨q1, q2, q3, q4, q5, q6, q7, q8⟩ := hr
    rw [if_pos ((d0 k k1).mpr e0), if_pos ((d0 k k1).mpr e0)]
    have hR := name_R (c := 1793) (p := g) (s := 0) (n0 := 12) (off := 0) (N := dN d) (w := zJ ρ 1968 0 0 e) (ρ := ρ) (by omega) (by decide) (by omega)
    have hC := name_C (p := P) (N := dN d) (w := zJ σ 129 0 e 0) (σ := sI σ 70 0 0 0 0) hN hPC.1
    have ec : nix (fun s => zJ (sI σ 70 0 0 0 0) 448 P s 0) (zJ σ 129 0 e 0) (dN d) 0 = nix (dNm d) (zJ ρ 1968 0 0 e) (dN d) 0 := by
      rw [q1]
      refine nix_c _ _ (fun s _ hs => ?_)
      exact (hPC.2.2.choose_spec.2.2.1 s (by omega)).1
    have er : nix (fun i => zJ ρ 1793 g 0 (0 + i)) (zJ ρ 1968 0 0 e) (dN d) 0 = nix (dNm d) (zJ ρ 1968 0 0 e) (dN d) 0 := by
      refine nix_c _ _ (fun s _ hs => ?_)
      show zJ ρ 1793 g 0 (0 + s) = _
      rw [Nat.zero_add]
      exact (hPR.2.2.1 s (by omega)).1
    rw [ec] at hC
    rw [er] at hR
    have h768 : zI ρ 768 g 0 0 = nI (dN d) := hPR.1
    have e2 : (zR ρ 898 0 0 0).1 = g := by rw [hz3]
    rw [e2, h768, bq_e (show fX14_indexOf 1793 g 0 12 0 (nI (dN d)) (zJ ρ 1968 0 0 e) ρ = _ from hR)]
    have z64 : ∀ v, zR (sI σ 70 0 0 0 v) 64 0 0 0 = (P, 0) := fun _ => hz
    have z68 : ∀ v, zI (sI σ 70 0 0 0 v) 68 0 0 0 = nI b := fun _ => b2
    have z129 : ∀ v, zJ (sI σ 70 0 0 0 v) 129 0 e 0 = zJ σ 129 0 e 0 := fun _ => rfl
    rcases nix_s (f := dNm d) (w := zJ ρ 1968 0 0 e) (dN d) 0 with ⟨n1, n2⟩ | ⟨s, _, hs, n3, n1, n2⟩
    · have hp : fX1_doPush e (sI σ 70 0 0 0 0) = some (0, sI σ 70 0 0 0 0) := by
        unfold fX1_doPush
        rw [z64, z129, bq_e hC, n1, z68]
        have c1 : ¬ (0 : Int32) ≤ -nI 1 := by decide
        simp only [c1, ↓reduceIte, ite_self]
      refine ⟨0, _, _, 1, ρ, X, by rw [bq_e hp, if_pos (Or.inl rfl)], ?_, Or.inl ⟨rfl, rfl, rfl⟩, hA, hG1, hF⟩
      rw [n1]
      split
      · rw [if_pos (show (-nI 1 : Int32) = -1 from rfl)]
      · rfl
    · rw [Nat.zero_add] at hs
      have hs12 : s < 12 := by omega
      have hCs := hPC.2.2.choose_spec.2.2.1 s hs
      have hRs := hPR.2.2.1 s hs
      have wf := hW.2.2.1 s hs
      have h449 : zI (sI σ 70 0 0 0 0) 449 P s 0 = nI (dK d s) := hCs.2.1
      have h450 : zI (sI σ 70 0 0 0 0) 450 P s 0 = nI (dW d s) := hCs.2.2.1
      have h385 : zI (sI σ 70 0 0 0 0) 385 5 e 0 = nI w := q6
      have h1794 := hRs.2.1
      have h1795 := hRs.2.2.1
      have hK7 := wf.1
      have hW6 := wf.2.2.1
      by_cases c : b = 0 ∧ dK d s = 0 ∧ dW d s = w
      · obtain ⟨c1, c2, c3⟩ := c
        have hst : zI σ 68 0 0 0 = nI 0 := by rw [b2, c1]
        have hr : EntP σ ρ e t (dW d s) := by
          rw [c3]; exact ⟨q1, q2, q3, q4, q5, q6, q7, q8⟩
        obtain ⟨σ2, σ', ρ', X', u1, u2, u3, u4, u5, u6⟩ := r_push hB h hG (by omega) hs c2 he (by rw [← n1]; exact hC) hst hr
        refine ⟨1, σ2, σ', 0, sI ρ' 930 0 0 0 (zI ρ' 930 0 0 0), X', ?_, ?_, Or.inr ⟨rfl, rfl, u2⟩, ?_, u5.up (Nat.le_succ E), u6⟩
        · rw [bq_e (show fX1_doPush e (sI σ 70 0 0 0 0) = _ from u1), if_pos (Or.inr rfl)]
        · have c0 : zI ρ 929 0 0 0 = nI 0 := by rw [b3, c1]
          have cn : ((nI s : Int32) = -1) = False := eq_false (n_mx (a := s) (by omega))
          have c5 : zI ρ 1795 g 0 s = zI ρ 1967 0 0 e := by rw [h1795, q7, c3]
          have c6 : zI ρ 1794 g 0 s = nI 0 := by rw [h1794, c2]
          have i6 : (6 : Int32) = nI 6 := rfl
          rw [n1]
          simp (disch := omega) only [c0, cn, n_gi, n_cl, hs12, he, hz3, c5, c6, q4, i6, n_mul, ↓reduceIte]
          rw [bq_e u3, lt_k]
          rfl
        · rw [sI_self]; exact u4.wk (fun q => q.elim)
      · have hp : fX1_doPush e (sI σ 70 0 0 0 0) = some (0, sI σ 70 0 0 0 0) := by
          unfold fX1_doPush
          rw [z64, z129, bq_e hC, n1, z68, z64]
          have c1 : 0 ≤ s := Nat.zero_le _
          simp (disch := omega) only [i_0, n_eq, n_le, n_gi, n_cl, h449, h450, h385, hs12, c1, ↓reduceIte]
          have e449 : zI (sI σ 70 0 0 0 (nI 0)) 449 P s 0 = nI (dK d s) := h449
          have e450 : zI (sI σ 70 0 0 0 (nI 0)) 450 P s 0 = nI (dW d s) := h450
          have e385 : zI (sI σ 70 0 0 0 (nI 0)) 385 5 e 0 = nI w := h385
          simp (disch := omega) only [e449, e450, e385, n_eq]
          grind
        refine ⟨0, _, _, 1, ρ, X, by rw [bq_e hp, if_pos (Or.inl rfl)], ?_, Or.inl ⟨rfl, rfl, rfl⟩, hA, hG1, hF⟩
        have cn : ((nI s : Int32) = -1) = False := eq_false (n_mx (a := s) (by omega))
        rw [n1]
        simp (disch := omega) only [b3, cn, i_0, n_eq, n_gi, n_cl, hs12, he, hz3, h1794, h1795, q7, ↓reduceIte]
        grind
  · rw [if_neg (fun q => e0 ((d0 k k1).mp q)), if_neg (fun q => e0 ((d0 k k1).mp q))]
    by_cases e3 : k = 3
    · have z68 : zI (sI σ 70 0 0 0 0) 68 0 0 0 = nI b := b2
      rw [if_neg (fun q => by have := (d1 k k1).mp q; omega), if_neg (fun q => by have := (d2 k k1).mp q; omega), if_pos ((d3 k k1).mpr e3), z68, b3, lt_k]
      have hb01 : (nI b : Int32) = 0 ∨ (nI b : Int32) = 1 := by
        have : b = 0 ∨ b = 1 := by omega
        rcases this with rfl | rfl
        · exact Or.inl rfl
        · exact Or.inr rfl
      rw [if_pos hb01]
      have hS : ER P d σ0 ρ0 False X (sI (sI σ 70 0 0 0 0) 68 0 0 0 0) (sI ρ 929 0 0 0 0) := hA.stop (b := 0) (by decide)
      by_cases q : b = 0
      · subst q
        refine ⟨0, _, _, 1, ρ, X, rfl, if_pos rfl, Or.inl ⟨rfl, rfl, rfl⟩, ?_, hG1, hF⟩
        have : sI ρ 929 0 0 0 0 = ρ := by
          rw [show (0 : Int32) = zI ρ 929 0 0 0 from b3.symm]; exact sI_self _ _ _ _ _
        rw [← this]; exact hS
      · have eb : b = 1 := by omega
        subst eb
        refine ⟨1, _, _, 0, _, X, rfl, ?_, Or.inr ⟨rfl, rfl, still_steps hB hS hG1 hF⟩, hS, hG1, hF⟩
        rw [if_neg (by decide), lt_k]
    · obtain ⟨a, a1, a2, a3⟩ := k5 (by omega)
      have z131 : zI (sI σ 70 0 0 0 0) 131 0 e 0 = nI a := a2
      rw [if_neg (c := (nI k : Int32) = 3) (fun q => by have := (d3 k k1).mp q; omega), z131, a3]
      have hIH : fX14_isHeld (nI a) ρ = some (if a < X 5 0 then 1 else 0, ρ) := by
        unfold fX14_isHeld
        rw [hh3, bq_e (isIn_R (by omega) (by omega)), if_pos]
        split
        · exact Or.inr rfl
        · exact Or.inl rfl
      rw [bq_e hIH]
      by_cases c : a < X 5 0
      · rw [if_pos c, if_neg (show ¬ (1 : Int32) = 0 by decide), k3]
        by_cases e1 : k = 1
        · obtain ⟨σ2, σ', ρ', X', u1, u2, u3, u4, u5, u6⟩ := r_release hB h hG hE c
          rw [if_pos ((d1 k k1).mpr e1), if_pos ((d1 k k1).mpr e1), bq_e (show fX1_doRelease (nI a) (sI σ 70 0 0 0 0) = _ from u1), bq_e u3, if_pos (Or.inr rfl), lt_k]
          refine ⟨1, σ2, σ', 0, sI ρ' 930 0 0 0 (zI ρ' 930 0 0 0), X', rfl, rfl, Or.inr ⟨rfl, rfl, u2⟩, ?_, u5, u6⟩
          rw [sI_self]; exact u4.wk (fun q => q.elim)
        · obtain ⟨σ2, ρ', X', u1, u2, u4, u5, u6, _⟩ := r_away hB hA hG1 hF c
          rw [if_neg (fun q => e1 ((d1 k k1).mp q)), if_neg (fun q => e1 ((d1 k k1).mp q)), if_pos ((d2 k k1).mpr (by omega)), bq_e u1, bq_e u2, if_pos (Or.inr rfl)]
          exact ⟨1, σ2, σ2, 0, ρ', X', rfl, rfl, Or.inr ⟨rfl, rfl, still_steps hB u4 u5 u6⟩, u4, u5, u6⟩
      · rw [if_neg c, if_pos rfl]
        have z66 : zI (sI σ 70 0 0 0 0) 66 0 0 0 = nI (X 5 0) := hh2
        have e1 : fX1_removeHeld (nI a) (sI σ 70 0 0 0 0) = some (0, sI σ 70 0 0 0 0) := take_Cn hh1 c (by omega) z66
        have e2 : fX1_doRelease (nI a) (sI σ 70 0 0 0 0) = some (0, sI σ 70 0 0 0 0) := by
          unfold fX1_doRelease
          have b1 : ¬ a < 0 := by omega
          rw [z66]
          simp (disch := omega) only [i_0, n_lt, b1, c, ↓reduceIte]
        refine ⟨0, _, _, 1, ρ, X, ?_, rfl, Or.inl ⟨rfl, rfl, rfl⟩, hA, hG1, hF⟩
        by_cases q : k = 1
        · rw [if_pos ((d1 k k1).mpr q), bq_e e2, if_pos (Or.inl rfl)]
        · rw [if_neg (fun z => q ((d1 k k1).mp z)), if_pos ((d2 k k1).mpr (by omega)), bq_e e1, if_pos (Or.inl rfl)]
end AG
