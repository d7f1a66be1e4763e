/-! ITEMS, both: a check, whole -/
noncomputable def cC5 (σ22 : Zs) : Option (Unit × Zs) := if (zI σ22 260 0 0 0) = 147 then (bq (fX4_take (zI σ22 260 0 0 0) σ22) fun v25 σ26 => bq (fX3_endCheck (zI σ22 260 0 0 0) σ26) fun v29 σ30 => some ((), σ30)) else (if (zI σ22 260 0 0 0) = 148 then (bq (fX4_take (zI σ22 260 0 0 0) σ22) fun v33 σ34 => bq (fX3_endCheck (zI σ22 260 0 0 0) σ34) fun v37 σ38 => some ((), σ38)) else (if (zI σ22 260 0 0 0) = 149 then (bq (fX4_take (zI σ22 260 0 0 0) σ22) fun v45 σ46 => bq (fX3_endCheck (zI σ22 260 0 0 0) σ46) fun v49 σ50 => some ((), σ50)) else (bq (fX4_fail  σ22) fun v41 σ42 => some ((), σ42))))
noncomputable def cC3 (z : Zs) : Option (Unit × Zs) := bq (fX4_take 58 z) fun _ z => bq (fX4_wholeExpression z) fun _ z => bq (fX4_take 146 z) fun _ z => cC5 z
theorem chk_e {σ : Zs} : fX4_check σ = bq (fX3_startCheck (zI σ 261 0 0 0) σ) fun _ z => bq (fX4_take (ck 17) z) fun _ z => bq (fX4_takeName 2 z) fun _ z => cC3 z := rfl
theorem k_cC5 {S : Nat} {σ0 z : Zs} (h : St S 1 σ0 z) : Wp1 (cC5 z) fun _ => St0 S σ0 := by
  unfold cC5
  repeat (first | exact kb (k_take h) fun _ _ h => kb0 (k_endCheck h) fun _ _ h => h | exact kb (k_fail h) fun _ _ h => h.2 | split)
theorem k_cC3 {S : Nat} {σ0 z : Zs} (h : St S 1 σ0 z) : Wp1 (cC3 z) fun _ => St0 S σ0 := kb (k_take h) fun _ _ h => kb (k_whole h (by omega)) fun _ _ h => kb (k_take h) fun _ _ h => k_cC5 h
theorem cC5_e {σ : Zs} {k : Nat} (h : zI σ 260 0 0 0 = ck k) (h1 : 19 ≤ k) (h2 : k ≤ 21) : cC5 σ = bq (fX4_take (ck k) σ) fun _ z => bq (fX3_endCheck (ck k) z) fun _ z => some ((), z) := by
  have hk : k = 19 ∨ k = 20 ∨ k = 21 := by omega
  unfold cC5
  rw [h]
  rcases hk with rfl | rfl | rfl
  · rw [if_pos (by decide)]
  · rw [if_neg (by decide), if_pos (by decide)]
  · rw [if_neg (by decide), if_neg (by decide), if_pos (by decide)]
section CM
variable {x : Cx} {t : Nat} {σ ρ : Zs} {d : Pd}
theorem end_chk {S k a b : Nat} (h1 : zI σ 192 0 0 0 = 0) (h2 : zI σ 197 0 0 0 = 1) (h3 : zR σ 196 0 0 0 = (S, k)) (h4 : zR σ 194 0 0 0 = (S, 0)) (h5 : zI σ 205 0 0 0 = nI a) (h6 : zI σ 326 S 0 0 = nI b) : fX3_endExpression σ = some ((), sI (sI σ 2 S k 0 (nI a)) 3 S k 0 (nI b)) := by
  have s1 : (zR σ 196 0 0 0).1 = S := by rw [h3]
  have s2 : (zR σ 196 0 0 0).2 = k := by rw [h3]
  have s4 : (zR σ 194 0 0 0).1 = S := by rw [h4]
  have p1 : ∀ p s v, (zR (sI σ 2 p s 0 v) 196 0 0 0).1 = S := fun _ _ _ => s1
  have p2 : ∀ p s v, (zR (sI σ 2 p s 0 v) 196 0 0 0).2 = k := fun _ _ _ => s2
  have p4 : ∀ p s v, (zR (sI σ 2 p s 0 v) 194 0 0 0).1 = S := fun _ _ _ => s4
  have p6 : ∀ p s v, zI (sI σ 2 p s 0 v) 326 S 0 0 = nI b := fun _ _ _ => h6
  unfold fX3_endExpression
  rw [if_pos h1, if_neg (show ¬ zI σ 197 0 0 0 = 0 by rw [h2]; decide), lt_k, lt_k, p1, p2, p4, p6, s1, s2, h5]
theorem end_ck {S k M f : Nat} (h1 : zI σ 192 0 0 0 = 0) (h3 : zR σ 196 0 0 0 = (S, k)) (h4 : zR σ 194 0 0 0 = (S, 0)) (h6 : zI σ 323 S 0 0 = nI M) : fX3_endCheck (nI f) σ = some ((), sI (sI σ 1 S k 0 (nI f)) 323 S 0 0 (nI (M + 1))) := by
  have s1 : (zR σ 196 0 0 0).1 = S := by rw [h3]
  have s2 : (zR σ 196 0 0 0).2 = k := by rw [h3]
  have s4 : (zR σ 194 0 0 0).1 = S := by rw [h4]
  have p4 : ∀ p s v, (zR (sI σ 1 p s 0 v) 194 0 0 0).1 = S := fun _ _ _ => s4
  have p6 : ∀ p s v, zI (sI σ 1 p s 0 v) 323 S 0 0 = nI M := fun _ _ _ => h6
  unfold fX3_endCheck
  rw [if_pos h1, lt_k, lt_k, p4, p6, s1, s2, i_1, n_add]
/-- the law's check, behind its input -/
noncomputable def lC3 (w17 : Int32) (ρ14 : Zs) : Option (Except (Int32 × Int32) Unit × Zs) := bw (fX14_take_ 103 ρ14) fun w22 ρ19 => lt (sI ρ19 910 0 0 0 w17) fun ρ23 => bw (fX14_whole  ρ23) fun w29 ρ26 => bw (fX14_take_ 18 ρ26) fun w34 ρ31 => if gi (zI ρ31 905 0 0 0) 1501 then bq (fX14_isIn (((zI ρ31 1926 0 0 (Int32.toNatClampNeg (zI ρ31 905 0 0 0))) : Int32).toInt64) 19 21 ρ31) fun v36 ρ37 => if v36 = 0 then (bq (fX14_wrong ρ37) fun w71 ρ72 => some (.error w71, ρ72)) else (if gi (zI ρ37 905 0 0 0) 1501 then bw (fX14_take  ρ37) fun w45 ρ42 => if (zI ρ42 906 0 0 0) = 0 then (some (.ok (), ρ42)) else (if (zR ρ42 909 0 0 0).2 = 0 then if (zR ρ42 909 0 0 0).2 = 0 then if gi (zI ρ42 781 ((zR ρ42 909 0 0 0).1) 0 0) 8 then lt (sI ρ42 1806 ((zR ρ42 909 0 0 0).1) 0 (Int32.toNatClampNeg (zI ρ42 781 ((zR ρ42 909 0 0 0).1) 0 0)) w17) fun ρ51 => if (zR ρ51 909 0 0 0).2 = 0 then if (zR ρ51 909 0 0 0).2 = 0 then if gi (zI ρ51 781 ((zR ρ51 909 0 0 0).1) 0 0) 8 then lt (sI ρ51 1807 ((zR ρ51 909 0 0 0).1) 0 (Int32.toNatClampNeg (zI ρ51 781 ((zR ρ51 909 0 0 0).1) 0 0)) w29) fun ρ58 => if (zR ρ58 909 0 0 0).2 = 0 then if (zR ρ58 909 0 0 0).2 = 0 then if gi (zI ρ58 781 ((zR ρ58 909 0 0 0).1) 0 0) 8 then lt (sI ρ58 1808 ((zR ρ58 909 0 0 0).1) 0 (Int32.toNatClampNeg (zI ρ58 781 ((zR ρ58 909 0 0 0).1) 0 0)) (zI ρ37 1926 0 0 (Int32.toNatClampNeg (zI ρ37 905 0 0 0)))) fun ρ65 => if (zR ρ65 909 0 0 0).2 = 0 then lt (sI ρ65 781 ((zR ρ65 909 0 0 0).1) 0 0 ((zI ρ65 781 ((zR ρ65 909 0 0 0).1) 0 0) + 1)) fun ρ69 => some (.ok (), ρ69) else none else none else none else none else none else none else none else none else none else none) else none) else none
theorem c22_e {x1 z0 : Int32} : fX14_check_22 x1 z0 ρ = bw (fX14_must z0 4 x1 ρ) fun _ ρ9 => bw (fX14_streamNamed ρ9) fun w17 ρ14 => lC3 w17 ρ14 := rfl
/-- the law's words of a check -/
theorem lc_end {w s f : Int32} {M : Nat} (hm : zI ρ 906 0 0 0 = nI 1) (hg : zR ρ 909 0 0 0 = (qG x, 0)) (h : zI ρ 781 (qG x) 0 0 = nI M) (hM : M < 8) : (if (zI ρ 906 0 0 0) = 0 then (some ((.ok (), ρ) : Except (Int32 × Int32) Unit × Zs)) else (if (zR ρ 909 0 0 0).2 = 0 then if (zR ρ 909 0 0 0).2 = 0 then if gi (zI ρ 781 ((zR ρ 909 0 0 0).1) 0 0) 8 then lt (sI ρ 1806 ((zR ρ 909 0 0 0).1) 0 (Int32.toNatClampNeg (zI ρ 781 ((zR ρ 909 0 0 0).1) 0 0)) w) fun ρ51 => if (zR ρ51 909 0 0 0).2 = 0 then if (zR ρ51 909 0 0 0).2 = 0 then if gi (zI ρ51 781 ((zR ρ51 909 0 0 0).1) 0 0) 8 then lt (sI ρ51 1807 ((zR ρ51 909 0 0 0).1) 0 (Int32.toNatClampNeg (zI ρ51 781 ((zR ρ51 909 0 0 0).1) 0 0)) s) fun ρ58 => if (zR ρ58 909 0 0 0).2 = 0 then if (zR ρ58 909 0 0 0).2 = 0 then if gi (zI ρ58 781 ((zR ρ58 909 0 0 0).1) 0 0) 8 then lt (sI ρ58 1808 ((zR ρ58 909 0 0 0).1) 0 (Int32.toNatClampNeg (zI ρ58 781 ((zR ρ58 909 0 0 0).1) 0 0)) f) fun ρ65 => if (zR ρ65 909 0 0 0).2 = 0 then lt (sI ρ65 781 ((zR ρ65 909 0 0 0).1) 0 0 ((zI ρ65 781 ((zR ρ65 909 0 0 0).1) 0 0) + 1)) fun ρ69 => some (.ok (), ρ69) else none else none else none else none else none else none else none else none else none else none)) = some (.ok (), sI (sI (sI (sI ρ 1806 (qG x) 0 M w) 1807 (qG x) 0 M s) 1808 (qG x) 0 M f) 781 (qG x) 0 0 (nI (M + 1))) := by
  have g : gi (nI M) 8 := (n_gi (by omega)).mpr hM
  obtain ⟨z1, hz1⟩ : ∃ z, z = sI ρ 1806 (qG x) 0 M w := ⟨_, rfl⟩
  obtain ⟨z2, hz2⟩ : ∃ z, z = sI z1 1807 (qG x) 0 M s := ⟨_, rfl⟩
  obtain ⟨z3, hz3⟩ : ∃ z, z = sI z2 1808 (qG x) 0 M f := ⟨_, rfl⟩
  have r2 : (zR ρ 909 0 0 0).2 = 0 := by rw [hg]
  have r1 : (zR ρ 909 0 0 0).1 = qG x := by rw [hg]
  have a2 : (zR z1 909 0 0 0).2 = 0 := by rw [hz1]; exact r2
  have a1 : (zR z1 909 0 0 0).1 = qG x := by rw [hz1]; exact r1
  have b2 : (zR z2 909 0 0 0).2 = 0 := by rw [hz2]; exact a2
  have b1 : (zR z2 909 0 0 0).1 = qG x := by rw [hz2]; exact a1
  have c2 : (zR z3 909 0 0 0).2 = 0 := by rw [hz3]; exact b2
  have c1 : (zR z3 909 0 0 0).1 = qG x := by rw [hz3]; exact b1
  have h1 : zI z1 781 (qG x) 0 0 = nI M := by rw [hz1, sI_c (by decide)]; exact h
  have h2 : zI z2 781 (qG x) 0 0 = nI M := by rw [hz2, sI_c (by decide)]; exact h1
  have h3 : zI z3 781 (qG x) 0 0 = nI M := by rw [hz3, sI_c (by decide)]; exact h2
  have e1 : ∀ n, n = M → sI ρ 1806 (qG x) 0 n w = z1 := fun n hn => by rw [hn, hz1]
  rw [hm, if_neg (by decide), if_pos r2, if_pos r2, r1, h, if_pos g, lt_k, n_cl (show M < 2147483648 by omega), ← hz1, if_pos a2, if_pos a2, a1, h1, if_pos g, lt_k, n_cl (show M < 2147483648 by omega), ← hz2, if_pos b2, if_pos b2, b1, h2, if_pos g, lt_k, n_cl (show M < 2147483648 by omega), ← hz3, if_pos c2, lt_k, c1, h3, i_1, n_add]
end CM
