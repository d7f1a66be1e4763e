/-! TOKENS: all of a tape -/
def tC (c : Nat) : Bool := [580, 1600, 1601, 1602].contains c
def tR (c : Nat) : Bool := [901, 1926, 1927, 1928].contains c
def TFC (σ0 σ : Zs) : Prop := ∀ c, tC c = false → ∀ q s i, zI σ c q s i = zI σ0 c q s i ∧ zJ σ c q s i = zJ σ0 c q s i ∧ zR σ c q s i = zR σ0 c q s i
def TFR (σ0 σ : Zs) : Prop := ∀ c, tR c = false → ∀ q s i, zI σ c q s i = zI σ0 c q s i ∧ zJ σ c q s i = zJ σ0 c q s i ∧ zR σ c q s i = zR σ0 c q s i
theorem TFC.tr {a b c : Zs} (h : TFC a b) (k : TFC b c) : TFC a c := fun e w q s i => ⟨((k e w q s i).1).trans (h e w q s i).1, ((k e w q s i).2.1).trans (h e w q s i).2.1, ((k e w q s i).2.2).trans (h e w q s i).2.2⟩
theorem TFR.tr {a b c : Zs} (h : TFR a b) (k : TFR b c) : TFR a c := fun e w q s i => ⟨((k e w q s i).1).trans (h e w q s i).1, ((k e w q s i).2.1).trans (h e w q s i).2.1, ((k e w q s i).2.2).trans (h e w q s i).2.2⟩
theorem TFC.rf {a : Zs} : TFC a a := fun _ _ _ _ _ => ⟨rfl, rfl, rfl⟩
theorem TFR.rf {a : Zs} : TFR a a := fun _ _ _ _ _ => ⟨rfl, rfl, rfl⟩
theorem sI_c {z : Zs} {c e q s i q2 s2 i2 : Nat} {v : Int32} (h : ¬ e = c) : zI (sI z c q s i v) e q2 s2 i2 = zI z e q2 s2 i2 := by rw [zI_sI, if_neg (fun q => h q.1)]
theorem sJ_c {z : Zs} {c e q s i q2 s2 i2 : Nat} {v : Int64} (h : ¬ e = c) : zJ (sJ z c q s i v) e q2 s2 i2 = zJ z e q2 s2 i2 := by rw [zJ_sJ, if_neg (fun q => h q.1)]
theorem adC_f {z : Zs} {c : Nat} {x y : Int32} {w : Int64} : TFC z (adC z c x y w) := by
  intro e he q s i
  have n1 : ¬ e = 580 := by rintro rfl; cases he
  have n2 : ¬ e = 1600 := by rintro rfl; cases he
  have n3 : ¬ e = 1601 := by rintro rfl; cases he
  have n4 : ¬ e = 1602 := by rintro rfl; cases he
  unfold adC
  refine ⟨?_, ?_, rfl⟩
  · rw [sI_c n1]
    show zI (sI (sI z 1600 0 0 c x) 1601 0 0 c y) e q s i = _
    rw [sI_c n3, sI_c n2]
  · show zJ (sJ (sI (sI z 1600 0 0 c x) 1601 0 0 c y) 1602 0 0 c w) e q s i = _
    rw [sJ_c n4]; rfl
theorem adR_f {z : Zs} {c : Nat} {x y : Int32} {w : Int64} : TFR z (adR z c x y w) := by
  intro e he q s i
  have n1 : ¬ e = 901 := by rintro rfl; cases he
  have n2 : ¬ e = 1926 := by rintro rfl; cases he
  have n3 : ¬ e = 1927 := by rintro rfl; cases he
  have n4 : ¬ e = 1928 := by rintro rfl; cases he
  unfold adR
  refine ⟨?_, ?_, rfl⟩
  · rw [sI_c n1]
    show zI (sI (sI z 1926 0 0 c x) 1927 0 0 c y) e q s i = _
    rw [sI_c n3, sI_c n2]
  · show zJ (sJ (sI (sI z 1926 0 0 c x) 1927 0 0 c y) 1928 0 0 c w) e q s i = _
    rw [sJ_c n4]; rfl
theorem adC_v {z : Zs} {c j : Nat} {x y : Int32} {w : Int64} : zI (adC z c x y w) 1600 0 0 j = (if j = c then x else zI z 1600 0 0 j) ∧ zI (adC z c x y w) 1601 0 0 j = (if j = c then y else zI z 1601 0 0 j) ∧ zJ (adC z c x y w) 1602 0 0 j = (if j = c then w else zJ z 1602 0 0 j) := by
  unfold adC
  refine ⟨?_, ?_, ?_⟩
  · show zI (sI z 1600 0 0 c x) 1600 0 0 j = _
    rw [zI_sI]
    by_cases q : j = c
    · rw [if_pos ⟨rfl, rfl, rfl, q⟩, if_pos q]
    · rw [if_neg (fun z => q z.2.2.2), if_neg q]
  · show zI (sI (sI z 1600 0 0 c x) 1601 0 0 c y) 1601 0 0 j = _
    rw [zI_sI]
    by_cases q : j = c
    · rw [if_pos ⟨rfl, rfl, rfl, q⟩, if_pos q]
    · rw [if_neg (fun z => q z.2.2.2), if_neg q]; rfl
  · show zJ (sJ (sI (sI z 1600 0 0 c x) 1601 0 0 c y) 1602 0 0 c w) 1602 0 0 j = _
    rw [zJ_sJ]
    by_cases q : j = c
    · rw [if_pos ⟨rfl, rfl, rfl, q⟩, if_pos q]
    · rw [if_neg (fun z => q z.2.2.2), if_neg q]; rfl
theorem adR_v {z : Zs} {c j : Nat} {x y : Int32} {w : Int64} : zI (adR z c x y w) 1926 0 0 j = (if j = c then x else zI z 1926 0 0 j) ∧ zI (adR z c x y w) 1927 0 0 j = (if j = c then y else zI z 1927 0 0 j) ∧ zJ (adR z c x y w) 1928 0 0 j = (if j = c then w else zJ z 1928 0 0 j) := by
  unfold adR
  refine ⟨?_, ?_, ?_⟩
  · show zI (sI z 1926 0 0 c x) 1926 0 0 j = _
    rw [zI_sI]
    by_cases q : j = c
    · rw [if_pos ⟨rfl, rfl, rfl, q⟩, if_pos q]
    · rw [if_neg (fun z => q z.2.2.2), if_neg q]
  · show zI (sI (sI z 1926 0 0 c x) 1927 0 0 c y) 1927 0 0 j = _
    rw [zI_sI]
    by_cases q : j = c
    · rw [if_pos ⟨rfl, rfl, rfl, q⟩, if_pos q]
    · rw [if_neg (fun z => q z.2.2.2), if_neg q]; rfl
  · show zJ (sJ (sI (sI z 1926 0 0 c x) 1927 0 0 c y) 1928 0 0 c w) 1928 0 0 j = _
    rw [zJ_sJ]
    by_cases q : j = c
    · rw [if_pos ⟨rfl, rfl, rfl, q⟩, if_pos q]
    · rw [if_neg (fun z => q z.2.2.2), if_neg q]; rfl
section SA
variable {T : Nat} {σ ρ : Zs} {f : Nat → Nat}
theorem Tp.fr (h : Tp T f σ ρ) {σ' ρ' : Zs} (a : TFC σ σ') (b : TFR ρ ρ') : Tp T f σ' ρ' := ⟨h.1, ((b 900 rfl 0 0 0).1).trans h.2.1, fun i hi => ⟨(h.2.2 i hi).1, ((b 1923 rfl 0 0 i).1).trans (h.2.2 i hi).2.1, ((a 1728 rfl 0 0 i).1).trans (h.2.2 i hi).2.2⟩⟩
theorem Key.fr (h : ∀ i, i < 32 → zJ σ 1603 0 0 i = kwG i ∧ zJ ρ 1921 0 0 i = kmG i) {σ' ρ' : Zs} (a : TFC σ σ') (b : TFR ρ ρ') : ∀ i, i < 32 → zJ σ' 1603 0 0 i = kwG i ∧ zJ ρ' 1921 0 0 i = kmG i := fun i hi => ⟨((a 1603 rfl 0 0 i).2.1).trans (h i hi).1, ((b 1921 rfl 0 0 i).2.1).trans (h i hi).2⟩
theorem scan_sk {X : Int32} {e : Nat} (he : e ≤ T) (hT : T ≤ 1500) : ∀ (k y n : Nat), y + k = e → fX9_scan_18 X (n + k) (nI T) (nI e) (nI y) σ = fX9_scan_18 X n (nI T) (nI e) (nI e) σ := by
  intro k
  induction k with
  | zero =>
    intro y n h1
    have : y = e := by omega
    subst this
    rfl
  | succ k ih =>
    intro y n h1
    rw [show n + (k + 1) = (n + k) + 1 by omega, fX9_scan_18, if_neg (fun z => by have := (n_le (by omega) (by omega)).mp z; omega), if_pos ((n_lt (by omega) (by omega)).mpr (by omega)), i_1, n_add]
    exact ih (y + 1) n (by omega)
/-- one step of the class's scan -/
theorem scan_st (h : Tp T f σ ρ) (hK : ∀ i, i < 32 → zJ σ 1603 0 0 i = kwG i ∧ zJ ρ 1921 0 0 i = kmG i) {X : Int32} {y y4 : Nat} (hy : y < T) (h4 : y4 ≤ y) (n : Nat) :
    ((f y = 32 ∨ f y = 10) ∧ fX9_scan_18 X (n + 1) (nI T) (nI y4) (nI y) σ = fX9_scan_18 X n (nI T) (nI y4) (nI (y + 1)) σ) ∨ (f y ≠ 32 ∧ f y ≠ 10 ∧ fX9_scan_18 X (n + 1) (nI T) (nI y4) (nI y) σ = bq (fX9_scanToken (nI T) (nI y) σ) fun v z => fX9_scan_18 X n (nI T) v (nI (y + 1)) z) := by
  obtain ⟨hT, _, hf⟩ := id h
  obtain ⟨c1, c2, c3⟩ := hf y hy
  have g : gi (nI y) 1500 := (n_gi (by omega)).mpr (by omega)
  have i32' : (32 : Int32) = nI 32 := rfl
  have i10' : (10 : Int32) = nI 10 := rfl
  rw [fX9_scan_18, if_neg (fun z => by have := (n_le (by omega) (by omega)).mp z; omega), if_neg (fun z => by have := (n_lt (by omega) (by omega)).mp z; omega), if_pos g, if_pos g, show zI σ 1728 0 0 (Int32.toNatClampNeg (nI y)) = sby (f y) by rw [n_cl (by omega)]; exact c3, i_1, n_add, i32', i10']
  by_cases q1 : f y = 32
  · exact Or.inl ⟨Or.inl q1, by rw [if_pos ((sby_e c1 (by omega)).mpr q1)]⟩
  · rw [if_neg (fun z => q1 ((sby_e c1 (by omega)).mp z))]
    by_cases q2 : f y = 10
    · exact Or.inl ⟨Or.inr q2, by rw [if_pos ((sby_e c1 (by omega)).mpr q2)]⟩
    · exact Or.inr ⟨q1, q2, by rw [if_neg (fun z => q2 ((sby_e c1 (by omega)).mp z))]⟩
def Sts (C : Nat) (σ : Zs) : Prop := ∀ j, j < C → ∃ a, a < 2147483648 ∧ zI σ 1601 0 0 j = nI a
theorem Sts.ad {c p : Nat} {x : Int32} {w : Int64} (h : Sts c σ) (hp : p < 2147483648) : Sts (c + 1) (adC σ c x (nI p) w) := by
  intro j hj
  rw [adC_v.2.1]
  by_cases q : j = c
  · rw [if_pos q]; exact ⟨p, hp, rfl⟩
  · rw [if_neg q]; exact h j (by omega)
theorem scan_k {X : Int32} : ∀ (k y y4 c n : Nat) (σ : Zs), y + k = T → c ≤ y → y4 ≤ y → k < n → Tp T f σ ρ → (∀ i, i < 32 → zJ σ 1603 0 0 i = kwG i ∧ zJ ρ 1921 0 0 i = kmG i) → zI σ 580 0 0 0 = nI c → Sts c σ →
    ∃ σ' C, fX9_scan_18 X n (nI T) (nI y4) (nI y) σ = some ((), σ') ∧ TFC σ σ' ∧ c ≤ C ∧ C ≤ T + 1 ∧ zI σ' 580 0 0 0 = nI C ∧ Sts C σ' ∧ ∀ j, j < c → zI σ' 1600 0 0 j = zI σ 1600 0 0 j ∧ zI σ' 1601 0 0 j = zI σ 1601 0 0 j ∧ zJ σ' 1602 0 0 j = zJ σ 1602 0 0 j := by
  intro k
  induction k using Nat.strongRecOn with
  | ind k ih =>
    intro y y4 c n σ h1 h2 h3 h4 hT hK hc hS
    have hT5 := hT.1
    obtain ⟨n, rfl⟩ : ∃ j, n = j + 1 := ⟨n - 1, by omega⟩
    by_cases q0 : k = 0
    · subst q0
      refine ⟨adC σ c 0 (nI T) 0, c + 1, ?_, adC_f, by omega, by omega, rfl, hS.ad (by omega), fun j hj => ?_⟩
      · rw [fX9_scan_18, if_pos ((n_le (by omega) (by omega)).mpr (by omega)), bq_e (tk_C hc (by omega))]
      · obtain ⟨v1, v2, v3⟩ := adC_v (z := σ) (c := c) (j := j) (x := 0) (y := nI T) (w := 0)
        rw [v1, v2, v3, if_neg (by omega), if_neg (by omega), if_neg (by omega)]
        exact ⟨rfl, rfl, rfl⟩
    · rcases scan_st hT hK (X := X) (y := y) (y4 := y4) (by omega) h3 n with ⟨_, e⟩ | ⟨e1, e2, e⟩
      · rw [e]
        exact ih (k - 1) (by omega) (y + 1) y4 c n σ (by omega) (by omega) (by omega) (by omega) hT hK hc hS
      · obtain ⟨kk, ee, w, w', t1, t2, _, _, _, _, _, t3, _⟩ := tok_1 hT hK (show y < T by omega) e1 e2
        rw [e, t3, bq_as, bq_e (tk_C hc (by omega)), bq_s]
        have hsk := scan_sk (X := X) (σ := adC σ c (ck kk) (nI y) w') t2 hT5 (ee - (y + 1)) (y + 1) (n - (ee - (y + 1))) (by omega)
        rw [show n - (ee - (y + 1)) + (ee - (y + 1)) = n by omega] at hsk
        rw [hsk]
        obtain ⟨σ', C, r1, r2, r3, r4, r5, r6, r7⟩ := ih (T - ee) (by omega) ee ee (c + 1) (n - (ee - (y + 1))) (adC σ c (ck kk) (nI y) w') (by omega) (by omega) (Nat.le_refl _) (by omega) (hT.fr adC_f TFR.rf) (Key.fr hK adC_f TFR.rf) rfl (hS.ad (by omega))
        refine ⟨σ', C, r1, adC_f.tr r2, by omega, r4, r5, r6, fun j hj => ?_⟩
        obtain ⟨v1, v2, v3⟩ := adC_v (z := σ) (c := c) (j := j) (x := ck kk) (y := nI y) (w := w')
        obtain ⟨u1, u2, u3⟩ := r7 j (by omega)
        rw [if_neg (by omega)] at v1 v2 v3
        exact ⟨u1.trans v1, u2.trans v2, u3.trans v3⟩
theorem Tk1.cg {j k p : Nat} {σ' ρ' : Zs} (h : Tk1 σ ρ j k p) (a : zI σ' 1600 0 0 j = zI σ 1600 0 0 j ∧ zI σ' 1601 0 0 j = zI σ 1601 0 0 j ∧ zJ σ' 1602 0 0 j = zJ σ 1602 0 0 j) (b : zI ρ' 1926 0 0 j = zI ρ 1926 0 0 j ∧ zI ρ' 1927 0 0 j = zI ρ 1927 0 0 j ∧ zJ ρ' 1928 0 0 j = zJ ρ 1928 0 0 j) : Tk1 σ' ρ' j k p := by
  obtain ⟨h1, h2, h3, h4, h5, h6, h7, h8, h9⟩ := h
  obtain ⟨a1, a2, a3⟩ := a
  obtain ⟨b1, b2, b3⟩ := b
  refine ⟨h1, h2, b1.trans h3, b2.trans h4, a1.trans h5, a2.trans h6, fun q => ?_, fun q => ?_, fun q => ?_⟩
  · rw [a3, b3]; exact h7 q
  · rw [b3]; exact h8 q
  · rw [b3]; exact h9 q
theorem Tk1.nw {c k p : Nat} {w w' : Int64} (h1 : vk k = true) (h2 : p ≤ 1500) (h7 : k ≠ 203 → w' = w) (h8 : k = 200 → isName w) (h9 : k = 201 → ∃ n, n < 1000000000 ∧ w = lN n) : Tk1 (adC σ c (ck k) (nI p) w') (adR ρ c (nI k) (nI p) w) c k p := by
  obtain ⟨v1, v2, v3⟩ := adC_v (z := σ) (c := c) (j := c) (x := ck k) (y := nI p) (w := w')
  obtain ⟨u1, u2, u3⟩ := adR_v (z := ρ) (c := c) (j := c) (x := nI k) (y := nI p) (w := w)
  rw [if_pos rfl] at v1 v2 v3 u1 u2 u3
  refine ⟨h1, h2, u1, u2, v1, v2, fun q => ?_, fun q => ?_, fun q => ?_⟩
  · rw [v3, u3]; exact h7 q
  · rw [u3]; exact h8 q
  · rw [u3]; exact h9 q
theorem Tk1.old {c j k p : Nat} {x x2 y y2 : Int32} {w w' : Int64} (h : Tk1 σ ρ j k p) (hj : j < c) : Tk1 (adC σ c x y w') (adR ρ c x2 y2 w) j k p := by
  obtain ⟨v1, v2, v3⟩ := adC_v (z := σ) (c := c) (j := j) (x := x) (y := y) (w := w')
  obtain ⟨u1, u2, u3⟩ := adR_v (z := ρ) (c := c) (j := j) (x := x2) (y := y2) (w := w)
  rw [if_neg (by omega)] at v1 v2 v3 u1 u2 u3
  exact h.cg ⟨v1, v2, v3⟩ ⟨u1, u2, u3⟩
def TKr (T M : Nat) (σ ρ : Zs) : Prop := zI ρ 901 0 0 0 = nI M ∧ 1 ≤ M ∧ M ≤ T + 1 ∧ (∃ C, M ≤ C ∧ C ≤ 1501 ∧ zI σ 580 0 0 0 = nI C ∧ Sts C σ) ∧ (∀ j, j + 1 < M → ∃ k p, k < 202 ∧ Tk1 σ ρ j k p) ∧ ∃ k p, 202 ≤ k ∧ Tk1 σ ρ (M - 1) k p
theorem vk_204 {k : Nat} (h : vk k = true) : k < 204 := by
  simp only [vk, Bool.or_eq_true, Bool.and_eq_true, decide_eq_true_eq] at h
  omega
theorem scan_j {X : Int32} : ∀ (k y y4 c n n' m : Nat) (σ ρ : Zs), y + k = T → c ≤ y → y4 ≤ y → k < n → k < n' → k < m → Tp T f σ ρ → (∀ i, i < 32 → zJ σ 1603 0 0 i = kwG i ∧ zJ ρ 1921 0 0 i = kmG i) → zI σ 580 0 0 0 = nI c → zI ρ 901 0 0 0 = nI c → (∀ j, j < c → ∃ k p, k < 202 ∧ Tk1 σ ρ j k p) →
    ∃ σ' ρ' M, fX9_scan_18 X n (nI T) (nI y4) (nI y) σ = some ((), σ') ∧ fX14_cutTokens_31 (fun by1 ρb => fX14_cutTokens_7 m by1 ρb) n' (nI y) ρ = some ((), ρ') ∧ TKr T M σ' ρ' ∧ TFC σ σ' ∧ TFR ρ ρ' := by
  intro k
  induction k using Nat.strongRecOn with
  | ind k ih =>
    intro y y4 c n n' m σ ρ h1 h2 h3 h4 h5 h6 hT hK hc hc2 hP
    have hT5 := hT.1
    obtain ⟨n, rfl⟩ : ∃ j, n = j + 1 := ⟨n - 1, by omega⟩
    obtain ⟨n', rfl⟩ : ∃ j, n' = j + 1 := ⟨n' - 1, by omega⟩
    obtain ⟨m, rfl⟩ : ∃ j, m = j + 1 := ⟨m - 1, by omega⟩
    have hS : Sts c σ := fun j hj => by
      obtain ⟨k, p, _, _, p2, _, _, _, p6, _⟩ := hP j hj
      exact ⟨p, by omega, p6⟩
    have i202' : (202 : Int32) = nI 202 := rfl
    have c7 : ∀ (K : Nat) (e : Nat) (p : Nat) (w : Int64), K < 204 → fX14_cutTokens_7 (m + 1) (nI e) (adR ρ c (nI K) (nI p) w) = if 202 ≤ K then some ((), adR ρ c (nI K) (nI p) w) else fX14_cutTokens_31 (fun by1 ρb => fX14_cutTokens_7 m by1 ρb) FU (nI e) (adR ρ c (nI K) (nI p) w) := fun K e p w hK => by
      have u0 : zI (adR ρ c (nI K) (nI p) w) 901 0 0 0 = nI (c + 1) := rfl
      obtain ⟨u1, _, _⟩ := adR_v (z := ρ) (c := c) (j := c) (x := nI K) (y := nI p) (w := w)
      rw [if_pos rfl] at u1
      rw [fX14_cutTokens_7, u0, if_neg (show ¬ (nI (c + 1) : Int32) = 0 by rw [i_0, n_eq (by omega) (by omega)]; omega), i_1, n_sub (by omega), Nat.add_sub_cancel, if_pos ((n_gi (by omega)).mpr (by omega)), n_cl (by omega), u1, i202']
      by_cases q : 202 ≤ K
      · rw [if_pos ((n_le (by omega) (by omega)).mpr q), if_pos q]
      · rw [if_neg (fun z => q ((n_le (by omega) (by omega)).mp z)), if_neg q]
    by_cases q0 : k = 0
    · subst q0
      have ey : y = T := by omega
      subst ey
      have hb := byt_E hT (Nat.le_refl y) (by omega)
      refine ⟨adC σ c (ck 202) (nI y) 0, adR ρ c (nI 202) (nI y) 0, c + 1, ?_, ?_, ⟨rfl, by omega, by omega, ⟨c + 1, Nat.le_refl _, by omega, rfl, hS.ad (by omega)⟩, fun j hj => ?_, 202, y, by omega, ?_⟩, adC_f, adR_f⟩
      · rw [fX9_scan_18, if_pos ((n_le (by omega) (by omega)).mpr (by omega)), bq_e (tk_C hc (by omega))]
        rfl
      · rw [fX14_cutTokens_31, bq_e hb, if_neg (by decide), bq_e hb, if_neg (by decide), bq_e hb, if_pos rfl, hT.2.1, bq_e (tok_R hc2 (by omega))]
        show fX14_cutTokens_7 (m + 1) (nI y) (adR ρ c (nI 202) (nI y) 0) = _
        rw [c7 202 y y 0 (by decide), if_pos (by decide)]
      · obtain ⟨k, p, k1, k2⟩ := hP j (by omega)
        exact ⟨k, p, k1, k2.old (by omega)⟩
      · exact Tk1.nw rfl hT5 (fun _ => rfl) (fun z => by cases z) (fun z => by cases z)
    · have hy : y < T := by omega
      obtain ⟨d1, d2, d3⟩ := hT.2.2 y hy
      have hb := byt_R hT hy
      rcases scan_st hT hK (X := X) (y := y) (y4 := y4) hy h3 n with ⟨e0, e⟩ | ⟨e1, e2, e⟩
      · have hl : fX14_cutTokens_31 (fun by1 ρb => fX14_cutTokens_7 (m + 1) by1 ρb) (n' + 1) (nI y) ρ = fX14_cutTokens_31 (fun by1 ρb => fX14_cutTokens_7 (m + 1) by1 ρb) n' (nI (y + 1)) ρ := by
          rw [fX14_cutTokens_31, bq_e hb, i_1, n_add]
          by_cases q : f y = 32
          · rw [if_pos (show (nI (f y) : Int32) = 32 by rw [q]; rfl)]
          · have q2 : f y = 10 := e0.resolve_left q
            rw [if_neg (show ¬ (nI (f y) : Int32) = 32 from fun z => q ((n_eq (b := 32) (by omega) (by omega)).mp z)), bq_e hb, if_pos (show (nI (f y) : Int32) = 10 by rw [q2]; rfl)]
        rw [e, hl]
        exact ih (k - 1) (by omega) (y + 1) y4 c n n' (m + 1) σ ρ (by omega) (by omega) (by omega) (by omega) (by omega) (by omega) hT hK hc hc2 hP
      · obtain ⟨K, ee, w, w', t1, t2, t4, t5, t6, t7, t8, t3, t9⟩ := tok_1 hT hK hy e1 e2
        have hK4 := vk_204 t4
        rw [e, t3, bq_as, bq_e (tk_C hc (by omega)), bq_s, t9, bq_e (tok_R hc2 (by omega)), c7 K ee y w hK4]
        have hsk := scan_sk (X := X) (σ := adC σ c (ck K) (nI y) w') t2 hT5 (ee - (y + 1)) (y + 1) (n - (ee - (y + 1))) (by omega)
        rw [show n - (ee - (y + 1)) + (ee - (y + 1)) = n by omega] at hsk
        rw [hsk]
        have hnew : Tk1 (adC σ c (ck K) (nI y) w') (adR ρ c (nI K) (nI y) w) c K y := Tk1.nw t4 (by omega) t6 t7 t8
        by_cases q2 : 202 ≤ K
        · rw [if_pos q2]
          obtain ⟨σ', C, r1, r2, r3, r4, r5, r6, r7⟩ := scan_k (X := X) (ρ := adR ρ c (nI K) (nI y) w) (T - ee) ee ee (c + 1) (n - (ee - (y + 1))) (adC σ c (ck K) (nI y) w') (by omega) (by omega) (Nat.le_refl _) (by omega) (hT.fr adC_f adR_f) (Key.fr hK adC_f adR_f) rfl (hS.ad (by omega))
          refine ⟨σ', _, c + 1, r1, rfl, ⟨rfl, by omega, by omega, ⟨C, r3, by omega, r5, r6⟩, fun j hj => ?_, K, y, q2, ?_⟩, adC_f.tr r2, adR_f⟩
          · obtain ⟨k, p, k1, k2⟩ := hP j (by omega)
            exact ⟨k, p, k1, (k2.old (by omega)).cg (r7 j (by omega)) ⟨rfl, rfl, rfl⟩⟩
          · exact hnew.cg (r7 c (by omega)) ⟨rfl, rfl, rfl⟩
        · rw [if_neg q2]
          obtain ⟨σ', ρ', M, r1, r2, r3, r4, r5⟩ := ih (T - ee) (by omega) ee ee (c + 1) (n - (ee - (y + 1))) FU m (adC σ c (ck K) (nI y) w') (adR ρ c (nI K) (nI y) w) (by omega) (by omega) (Nat.le_refl _) (by omega) (by unfold FU; omega) (by omega) (hT.fr adC_f adR_f) (Key.fr hK adC_f adR_f) rfl rfl (fun j hj => by
            by_cases q3 : j = c
            · subst q3; exact ⟨K, y, by omega, hnew⟩
            · obtain ⟨k, p, k1, k2⟩ := hP j (by omega)
              exact ⟨k, p, k1, k2.old (by omega)⟩)
          exact ⟨σ', ρ', M, r1, r2, r3, adC_f.tr r4, adR_f.tr r5⟩
theorem r_tokens (hT : Tp T f σ ρ) (hK : ∀ i, i < 32 → zJ σ 1603 0 0 i = kwG i ∧ zJ ρ 1921 0 0 i = kmG i) : ∃ σ' ρ' M, fX9_scan (nI T) σ = some ((), σ') ∧ fX14_cutTokens ρ = some ((), ρ') ∧ TKr T M σ' ρ' ∧ TFC σ σ' ∧ TFR ρ ρ' := by
  have hT5 := hT.1
  have f1 : TFC σ (sI σ 580 0 0 0 0) := fun c hc q s i => ⟨sI_c (by rintro rfl; cases hc), rfl, rfl⟩
  have f2 : TFR ρ (sI ρ 901 0 0 0 0) := fun c hc q s i => ⟨sI_c (by rintro rfl; cases hc), rfl, rfl⟩
  have ff : T < FU := by unfold FU; omega
  obtain ⟨σ', ρ', M, r1, r2, r3, r4, r5⟩ := scan_j (X := nI T) T 0 0 0 FU FU 19999 (sI σ 580 0 0 0 0) (sI ρ 901 0 0 0 0) (by omega) (Nat.le_refl _) (Nat.le_refl _) ff ff (by omega) (hT.fr f1 f2) (Key.fr hK f1 f2) rfl rfl (fun j hj => absurd hj (Nat.not_lt_zero _))
  refine ⟨σ', ρ', M, ?_, ?_, r3, f1.tr r4, f2.tr r5⟩
  · unfold fX9_scan
    rw [lt_k, i_1500, min_C (by omega) (by omega), Nat.min_eq_left hT5]
    exact r1
  · unfold fX14_cutTokens
    rw [lt_k, show FU = 19999 + 1 from rfl, fX14_cutTokens_7, if_pos (by rfl)]
    exact r2
end SA
