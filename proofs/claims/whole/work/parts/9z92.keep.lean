/-! COMPILE: the law keeps what the old program has; the class begins, the law makes a program; the tokens -/
def kA (z : Zs) (g k : Nat) : Zs := (fun c p s i => if c = 1976 ∧ p = 0 ∧ s = 0 ∧ i < k then zI z 1795 g 0 i else if c = 1977 ∧ p = 0 ∧ s = 0 ∧ i < k then zI z 1941 0 0 i else zI z c p s i, fun c p s i => if c = 1975 ∧ p = 0 ∧ s = 0 ∧ i < k then zJ z 1793 g 0 i else zJ z c p s i, zR z)
theorem zI_kA (z : Zs) (g k c p s i : Nat) : zI (kA z g k) c p s i = if c = 1976 ∧ p = 0 ∧ s = 0 ∧ i < k then zI z 1795 g 0 i else if c = 1977 ∧ p = 0 ∧ s = 0 ∧ i < k then zI z 1941 0 0 i else zI z c p s i := rfl
theorem zJ_kA (z : Zs) (g k c p s i : Nat) : zJ (kA z g k) c p s i = if c = 1975 ∧ p = 0 ∧ s = 0 ∧ i < k then zJ z 1793 g 0 i else zJ z c p s i := rfl
def kE (z : Zs) (g N : Nat) : Zs := jJ (kA z g N) 1978 0 0 (va_cpy (zJ z 1940 0 0) (zJ z 1978 0 0) 0 0 16800)
def kF (z : Zs) (g N : Nat) : Zs := kE (sI z 950 0 0 0 (nI N)) g N
section KO
variable {g N : Nat} {ρ : Zs}
theorem keep_l (hN : N ≤ 12) : ∀ (k y n : Nat) (z : Zs), y + k = N → k < n → zR z 898 0 0 0 = (g, 0) → zI z 950 0 0 0 = nI N → fX14_keepOld_13 n (nI y) (kA z g y) = some ((), kE z g N) := by
  intro k
  induction k with
  | zero =>
    intro y n z h1 h2 h3 h4
    obtain ⟨n, rfl⟩ : ∃ j, n = j + 1 := ⟨n - 1, by omega⟩
    have ey : y = N := by omega
    subst ey
    have e2 : zI (kA z g y) 950 0 0 0 = nI y := h4
    have gc : gcp 0 0 16800 16800 16800 := (n_gcp (a := 0) (b := 0) (c := 16800) (by omega) (by omega) (by omega)).mpr (by omega)
    rw [fX14_keepOld_13, e2, if_pos ((n_le (by omega) (by omega)).mpr (Nat.le_refl y)), if_pos gc, lt_k, sC_j]
    rfl
  | succ k ih =>
    intro y n z h1 h2 h3 h4
    obtain ⟨n, rfl⟩ : ∃ j, n = j + 1 := ⟨n - 1, by omega⟩
    have e2 : zI (kA z g y) 950 0 0 0 = nI N := h4
    have g2 : gi (nI y) 12 := (n_gi (by omega)).mpr (by omega)
    have e3 : zR (kA z g y) 898 0 0 0 = (g, 0) := h3
    rw [fX14_keepOld_13, e2, if_neg (fun q => by have := (n_le (by omega) (by omega)).mp q; omega)]
    simp only [if_pos g2, lt_k, n_cl (show y < 2147483648 by omega), i_1, n_add, e3]
    have e4 : ∀ v, zR (sJ (kA z g y) 1975 0 0 y v) 898 0 0 0 = (g, 0) := fun _ => h3
    simp only [e4]
    have e5 : sI (sI (sJ (kA z g y) 1975 0 0 y (zJ (kA z g y) 1793 g 0 y)) 1976 0 0 y (zI (sJ (kA z g y) 1975 0 0 y (zJ (kA z g y) 1793 g 0 y)) 1795 g 0 y)) 1977 0 0 y (zI (sI (sJ (kA z g y) 1975 0 0 y (zJ (kA z g y) 1793 g 0 y)) 1976 0 0 y (zI (sJ (kA z g y) 1975 0 0 y (zJ (kA z g y) 1793 g 0 y)) 1795 g 0 y)) 1941 0 0 y) = kA z g (y + 1) := by
      refine zs_ext (fun c p s i => ?_) (fun c p s i => ?_) (fun _ _ _ _ => rfl)
      · simp only [zI_sI, zI_sJ, zI_kA]
        grind (splits := 40)
      · simp only [zJ_sI, zJ_sJ, zJ_kA]
        grind (splits := 40)
    rw [e5]
    exact ih (y + 1) n z (by omega) (by omega) h3 h4
theorem keep_R (hN : N ≤ 12) (h1 : zR ρ 898 0 0 0 = (g, 0)) (h2 : zI ρ 768 g 0 0 = nI N) : fX14_keepOld ρ = some ((), kF ρ g N) := by
  unfold fX14_keepOld
  rw [lt_k, h1, h2]
  have e0 : kA (sI ρ 950 0 0 0 (nI N)) g 0 = sI ρ 950 0 0 0 (nI N) := zs_ext (fun c p s i => by rw [zI_kA, if_neg (by omega), if_neg (by omega)]) (fun c p s i => by rw [zJ_kA, if_neg (by omega)]) (fun _ _ _ _ => rfl)
  have ff : N < FU := by unfold FU; omega
  have := keep_l (g := g) hN N 0 FU (sI ρ 950 0 0 0 (nI N)) (by omega) ff h1 rfl
  rw [e0] at this
  exact this
/-- what is kept -/
theorem kf_c {s : Nat} (hs : s < N) : zJ (kF ρ g N) 1975 0 0 s = zJ ρ 1793 g 0 s ∧ zI (kF ρ g N) 1976 0 0 s = zI ρ 1795 g 0 s ∧ zI (kF ρ g N) 1977 0 0 s = zI ρ 1941 0 0 s := by
  refine ⟨?_, ?_, ?_⟩
  · show zJ (kA (sI ρ 950 0 0 0 (nI N)) g N) 1975 0 0 s = _
    rw [zJ_kA, if_pos ⟨rfl, rfl, rfl, hs⟩]; rfl
  · show zI (kA (sI ρ 950 0 0 0 (nI N)) g N) 1976 0 0 s = _
    rw [zI_kA, if_pos ⟨rfl, rfl, rfl, hs⟩]; rfl
  · show zI (kA (sI ρ 950 0 0 0 (nI N)) g N) 1977 0 0 s = _
    rw [zI_kA, if_neg (fun z => absurd z.1 (by decide)), if_pos ⟨rfl, rfl, rfl, hs⟩]; rfl
theorem kf_d {j : Nat} (hj : j < 16800) : zJ (kF ρ g N) 1978 0 0 j = zJ ρ 1940 0 0 j := by
  show va_cpy (zJ (sI ρ 950 0 0 0 (nI N)) 1940 0 0) (zJ (sI ρ 950 0 0 0 (nI N)) 1978 0 0) 0 0 16800 j = _
  unfold va_cpy
  rw [if_pos (by omega), Nat.zero_add, Nat.sub_zero]
  rfl
theorem kf_o {c q s i : Nat} (h : c ≠ 950 ∧ c ≠ 1975 ∧ c ≠ 1976 ∧ c ≠ 1977 ∧ c ≠ 1978) : S3 ρ (kF ρ g N) c q s i := by
  refine ⟨?_, ?_, rfl⟩
  · show zI (kA (sI ρ 950 0 0 0 (nI N)) g N) c q s i = _
    rw [zI_kA, if_neg (by omega), if_neg (by omega), zI_sI, if_neg (by omega)]
  · show zJ (jJ (kA (sI ρ 950 0 0 0 (nI N)) g N) 1978 0 0 _) c q s i = _
    rw [zJ_jJ, if_neg (by omega), zJ_kA, if_neg (by omega)]
    rfl
end KO
/-- the class begins -/
def bgC (z : Zs) (p : Nat) : Zs := sI (sI (sI (sI (sI (sR z 194 0 0 0 (p, 0)) 321 p 0 0 0) 323 p 0 0 0) 326 p 0 0 0) 192 0 0 0 0) 193 0 0 0 (-1)
theorem begin_C {p : Nat} {z : Zs} : fX3_begin p z = some ((), bgC z p) := by
  unfold fX3_begin
  simp only [lt_k]
  rfl
theorem parse_C {z : Zs} : fX4_parse z = cRun (sI (sI z 258 0 0 0 (-1)) 259 0 0 0 (-1)) := by
  unfold fX4_parse cRun
  rw [lt_k, lt_k]
/-- the tokens that the law has cut -/
def tkO (ρ : Zs) (M : Nat) : Tk := (M, fun j => Int32.toNatClampNeg (zI ρ 1926 0 0 j), fun j => Int32.toNatClampNeg (zI ρ 1927 0 0 j), fun j => zJ ρ 1928 0 0 j)
section BG
variable {T M S g : Nat} {σ2 ρ1 : Zs}
theorem tkO_j {x : Cx} {σ ρ : Zs} {j k p : Nat} (hx : x.2.2.2.2.2 = tkO ρ1 M) (h : Tk1 σ2 ρ1 j k p) (f : zI σ 1600 0 0 j = zI σ2 1600 0 0 j ∧ zI σ 1601 0 0 j = zI σ2 1601 0 0 j ∧ zJ σ 1602 0 0 j = zJ σ2 1602 0 0 j) (e : zI ρ 1926 0 0 j = zI ρ1 1926 0 0 j ∧ zI ρ 1927 0 0 j = zI ρ1 1927 0 0 j ∧ zJ ρ 1928 0 0 j = zJ ρ1 1928 0 0 j) : TKj x σ ρ j ∧ qk x j = k := by
  obtain ⟨h1, h2, h3, h4, h5, h6, h7, h8, h9⟩ := h
  have hk := vk_204 h1
  have e1 : qk x j = k := by
    show x.2.2.2.2.2.2.1 j = k
    rw [hx]
    show Int32.toNatClampNeg (zI ρ1 1926 0 0 j) = k
    rw [h3, n_cl (by omega)]
  have e2 : qp x j = p := by
    show x.2.2.2.2.2.2.2.1 j = p
    rw [hx]
    show Int32.toNatClampNeg (zI ρ1 1927 0 0 j) = p
    rw [h4, n_cl (by omega)]
  have e3 : qw x j = zJ ρ1 1928 0 0 j := by
    show x.2.2.2.2.2.2.2.2 j = _
    rw [hx]
    rfl
  unfold TKj
  rw [e1, e2, e3]
  exact ⟨⟨h1, h2, e.1.trans h3, e.2.1.trans h4, e.2.2, f.1.trans h5, f.2.1.trans h6, fun q => f.2.2.trans (h7 q), h8, h9⟩, rfl⟩
/-- both before the first token -/
theorem beg_1 (hT : T ≤ 1500) (h : TKr T M σ2 ρ1) (h898 : zR ρ1 898 0 0 0 = (g, 0)) (hS : San0 σ2) : Beg (S, 1 - g, 0, sI (sI (bgC (sI σ2 705 0 0 0 0) S) 258 0 0 0 (-1)) 259 0 0 0 (-1), cmZ ρ1, tkO ρ1 M) := by
  obtain ⟨x, hx⟩ : ∃ x : Cx, x = (S, 1 - g, 0, sI (sI (bgC (sI σ2 705 0 0 0 0) S) 258 0 0 0 (-1)) 259 0 0 0 (-1), cmZ ρ1, tkO ρ1 M) := ⟨_, rfl⟩
  have x6 : x.2.2.2.2.2 = tkO ρ1 M := by rw [hx]
  rw [← hx]
  have hN : qN x = M := by rw [hx]; rfl
  have hC : qC x = sI (sI (bgC (sI σ2 705 0 0 0 0) S) 258 0 0 0 (-1)) 259 0 0 0 (-1) := by rw [hx]; rfl
  have hL : qL x = cmZ ρ1 := by rw [hx]; rfl
  have hq : qS x = S := by rw [hx]; rfl
  have hg : qG x = 1 - g := by rw [hx]; rfl
  have hm : qM x = 0 := by rw [hx]; rfl
  have hcg : cmG ρ1 = 1 - g := by unfold cmG; rw [h898]
  obtain ⟨M0, M1, M2, ⟨C, C1, C2, C3, C4⟩, k1, kk, kp, k2, k3⟩ := h
  have fz : FrR (1 - g) ρ1 (cmZ ρ1) := frR_cmZ hcg
  have ez : ∀ (j c : Nat), c = 1926 ∨ c = 1927 ∨ c = 1928 → S3 ρ1 (cmZ ρ1) c 0 0 j := fun j c hc => by
    unfold cmZ
    have := zP_o (ρ := ρ1) (g' := cmG ρ1) (c := c) (q := 0) (s := 0) (i := j) (Or.inl (by rcases hc with rfl | rfl | rfl <;> rfl))
    rcases hc with rfl | rfl | rfl <;> exact this
  have hTK : ∀ j k p, Tk1 σ2 ρ1 j k p → TKj x (qC x) (qL x) j ∧ qk x j = k := fun j k p hk => by
    refine tkO_j x6 hk ?_ ?_
    · rw [hC]; exact ⟨rfl, rfl, rfl⟩
    · rw [hL]
      exact ⟨(ez j 1926 (by simp)).1, (ez j 1927 (by simp)).1, (ez j 1928 (by simp)).2.1⟩
  have hz : ∀ c, isP c = true → c < 1024 ∨ 1024 ≤ c → ∀ i, zI (cmZ ρ1) c (1 - g) 0 i = if c = 909 ∨ c = 915 ∨ c = 906 then zI (cmZ ρ1) c (1 - g) 0 i else 0 := fun c hc _ i => by
    by_cases q : c = 909 ∨ c = 915 ∨ c = 906
    · rw [if_pos q]
    · rw [if_neg q]
      unfold cmZ
      rw [zI_sI, if_neg (by omega), zI_sI, if_neg (by omega), zI_sR, hcg]
      exact if_pos ⟨hc, rfl, rfl⟩
  refine ⟨⟨⟨?_, ?_, ?_, ?_, ?_⟩, ?_, ?_, ?_⟩, ⟨?_, ?_, ?_, ?_, ?_, ?_, ?_⟩, ⟨?_, ?_, ?_⟩, ?_, ?_, ?_, ?_⟩
  · rw [hN]; omega
  · rw [hN, hC]; exact ⟨C, C1, C2, C3⟩
  · rw [hN]
    intro j hj
    by_cases q : j + 1 < M
    · obtain ⟨k, p, _, a⟩ := k1 j q
      exact (hTK j k p a).1
    · have ej : j = M - 1 := by omega
      subst ej
      exact (hTK _ _ _ k3).1
  · rw [hN]
    intro j q
    obtain ⟨k, p, a1, a⟩ := k1 j q
    rw [(hTK j k p a).2]; exact a1
  · rw [hN, (hTK _ _ _ k3).2]; exact k2
  · rw [hL, hg, ← hcg]; rfl
  · rw [hL, hm]; rfl
  · rw [hm]; omega
  · rw [hC, hq]; rfl
  · rw [hC, hq]
    show zI (sI (sR (sI σ2 705 0 0 0 0) 194 0 0 0 (S, 0)) 321 S 0 0 0) 321 S 0 0 = _
    rw [zI_sI, if_pos ⟨rfl, rfl, rfl, rfl⟩]; rfl
  · rw [hC, hq]
    show zI (sI (sI (sR (sI σ2 705 0 0 0 0) 194 0 0 0 (S, 0)) 321 S 0 0 0) 323 S 0 0 0) 323 S 0 0 = _
    rw [zI_sI, if_pos ⟨rfl, rfl, rfl, rfl⟩]; rfl
  · rw [hC, hq]
    show zI (sI (sI (sI (sR (sI σ2 705 0 0 0 0) 194 0 0 0 (S, 0)) 321 S 0 0 0) 323 S 0 0 0) 326 S 0 0 0) 326 S 0 0 = _
    rw [zI_sI, if_pos ⟨rfl, rfl, rfl, rfl⟩]; rfl
  · rw [hC]; exact hS.1
  · rw [hC]; exact hS.2
  · rw [hC]; exact ⟨⟨C, C2, C3, C4⟩, fun _ => rfl⟩
  · rw [hC]; rfl
  · rw [hC]; rfl
  · rw [hC]; rfl
  · rw [hL, hg, hz 768 rfl (by omega), if_neg (by decide)]; rfl
  · rw [hL, hg, hz 781 rfl (by omega), if_neg (by decide)]; rfl
  · rw [hL, hg, hz 785 rfl (by omega), if_neg (by decide)]; rfl
  · rw [hL, hg, hz 1795 rfl (by omega), if_neg (by decide)]; rfl
end BG
