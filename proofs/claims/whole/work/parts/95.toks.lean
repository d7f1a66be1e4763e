/-! TOKENS: what the class's scan and the law's make of a tape -/
def kwN : List Int64 := [126922548994917, 431198331257, 1937007984, 1801807216, 512852587109, 1835101029, 2003399784, 1885954923, 469853431653, 1785686382, 28526, 131294808271214, 439855772532, 25209, 131294707347319, 435778056825, 1818326117, 426953237355, 1701606245, 1685221232, 1752132708, 1937010544, 7566701, 427071729268, 465557353332, 1836020596, 1818325876, 1953066341, 6385252, 28530, 7237492, 6382195]
theorem kw_n : ∀ i, i < 32 → kwG i = kwN.getD i 0 := by decide +kernel
theorem kwN_inj : ∀ i, i < 32 → ∀ j, j < 32 → kwN.getD i 0 = kwN.getD j 0 → i = j := by decide +kernel
theorem kw_inj {i j : Nat} (hi : i < 32) (hj : j < 32) (h : kwG i = kwG j) : i = j := by
  rw [kw_n i hi, kw_n j hj] at h
  exact kwN_inj i hi j hj h
def symB : List Nat := [40, 41, 44, 58, 61, 43, 45, 42, 47, 37, 60, 62]
/-- the class's kind of a token of the law's kind -/
def ck (k : Nat) : Int32 := if k < 32 then nI (128 + k) else if k < 112 then nI (symB.getD (k - 100) 0) else if k = 112 then nI 15421 else if k = 113 then nI 15933 else if k = 114 then nI 15422 else if k = 200 then nI 2 else if k = 201 then nI 3 else if k = 202 then nI 0 else nI 1
def vk (k : Nat) : Bool := decide (k < 32) || (decide (100 ≤ k) && decide (k < 115)) || (decide (200 ≤ k) && decide (k < 204))
def Tk1 (σ ρ : Zs) (j k p : Nat) : Prop := vk k = true ∧ p ≤ 1500 ∧ zI ρ 1926 0 0 j = nI k ∧ zI ρ 1927 0 0 j = nI p ∧ zI σ 1600 0 0 j = ck k ∧ zI σ 1601 0 0 j = nI p ∧ (k ≠ 203 → zJ σ 1602 0 0 j = zJ ρ 1928 0 0 j) ∧ (k = 200 → isName (zJ ρ 1928 0 0 j)) ∧ (k = 201 → ∃ n, n < 1000000000 ∧ zJ ρ 1928 0 0 j = lN n)
theorem sby_and : ∀ b, b < 256 → (sby b &&& 255 : Int32) = nI b := by decide +kernel
theorem sym_u : ∀ b, b < 256 → ((nI b : Int32).toUInt32 % 65536).toInt32 = nI b := by decide +kernel
theorem sym_ix : ∀ b, b < 256 → tx_ix 1 (nI b) = -1 ∨ ∃ j, j < 12 ∧ tx_ix 1 (nI b) = nI j ∧ ck (100 + j) = nI b := by decide +kernel
theorem sby_e {b k : Nat} (hb : b < 256) (hk : k < 128) : sby b = nI k ↔ b = k := by
  constructor
  · intro h
    have e := congrArg Int32.toInt h
    rw [sby_i hb, nI_toInt (by omega)] at e
    split at e <;> omega
  · rintro rfl
    unfold sby
    rw [if_pos hk]
theorem let_m1 {ρ : Zs} : fX14_isLetter (-1) ρ = some (0, ρ) := by
  unfold fX14_isLetter fX14_isIn
  rw [if_pos (by decide), bq_s, if_pos (Or.inl rfl)]
theorem dig_m1 {ρ : Zs} : fX14_isDigit (-1) ρ = some (0, ρ) := by
  unfold fX14_isDigit fX14_isIn
  rw [if_pos (by decide), bq_s, if_pos (Or.inl rfl)]
/-- the word of n bytes from a on -/
def pwI (f : Nat → Nat) (a : Nat) : Nat → Int64
  | 0 => 0
  | n + 1 => (pwI f a n <<< ((8 : Int32).toInt64 &&& 63)) ||| lN (f (a + n))
theorem pwI_n {f : Nat → Nat} {a : Nat} : ∀ n, n ≤ 8 → (∀ i, i < n → wByte (f (a + i))) → pwI f a n = lN (pkw n fun i => f (a + i)) := by
  intro n
  induction n with
  | zero => intro _ _; rfl
  | succ n ih =>
    intro h1 h2
    unfold pwI
    rw [ih (by omega) (fun i hi => h2 i (by omega)), sh8 (pkw_55 (by omega) (fun i hi => h2 i (by omega))) (by have := wB (h2 n (by omega)); omega)]
    rfl
def nuN (f : Nat → Nat) (a : Nat) : Nat → Nat
  | 0 => 0
  | n + 1 => 10 * nuN f a n + (f (a + n) - 48)
theorem nuN_lt {f : Nat → Nat} {a : Nat} : ∀ n, (∀ i, i < n → 48 ≤ f (a + i) ∧ f (a + i) ≤ 57) → nuN f a n < 10 ^ n := by
  intro n
  induction n with
  | zero => intro _; exact Nat.zero_lt_one
  | succ n ih =>
    intro h
    have h1 := ih (fun i hi => h i (by omega))
    have h2 := h n (by omega)
    have e : 10 ^ (n + 1) = 10 * 10 ^ n := by rw [Nat.pow_succ, Nat.mul_comm]
    rw [e]
    unfold nuN
    omega
def adC (z : Zs) (c : Nat) (x y : Int32) (w : Int64) : Zs := sI (sJ (sI (sI z 1600 0 0 c x) 1601 0 0 c y) 1602 0 0 c w) 580 0 0 0 (nI (c + 1))
def adR (z : Zs) (c : Nat) (x y : Int32) (w : Int64) : Zs := sI (sJ (sI (sI z 1926 0 0 c x) 1927 0 0 c y) 1928 0 0 c w) 901 0 0 0 (nI (c + 1))
theorem tk_C {z : Zs} {c : Nat} {x y : Int32} {w : Int64} (h : zI z 580 0 0 0 = nI c) (hc : c < 1501) : fX9_addToken x y w z = some ((), adC z c x y w) := by
  unfold fX9_addToken
  have g : gi (nI c) 1501 := (n_gi (by omega)).mpr hc
  have f1 : ∀ v, zI (sI z 1600 0 0 c v) 580 0 0 0 = nI c := fun _ => h
  have f2 : ∀ v u, zI (sI (sI z 1600 0 0 c v) 1601 0 0 c u) 580 0 0 0 = nI c := fun _ _ => h
  have f3 : ∀ v u t, zI (sJ (sI (sI z 1600 0 0 c v) 1601 0 0 c u) 1602 0 0 c t) 580 0 0 0 = nI c := fun _ _ _ => h
  rw [h, i_1501, if_neg (fun z => by have := (n_le (by omega) (by omega)).mp z; omega), if_pos g, lt_k, n_cl (by omega), f1, if_pos g, lt_k, n_cl (by omega), f2, if_pos g, lt_k, n_cl (by omega), f3, lt_k, i_1, n_add]
  rfl
theorem tok_R {z : Zs} {c : Nat} {x y : Int32} {w : Int64} (h : zI z 901 0 0 0 = nI c) (hc : c < 1501) : fX14_token x y w z = some ((), adR z c x y w) := by
  unfold fX14_token
  have g : gi (nI c) 1501 := (n_gi (by omega)).mpr hc
  have f1 : ∀ v, zI (sI z 1926 0 0 c v) 901 0 0 0 = nI c := fun _ => h
  have f2 : ∀ v u, zI (sI (sI z 1926 0 0 c v) 1927 0 0 c u) 901 0 0 0 = nI c := fun _ _ => h
  have f3 : ∀ v u t, zI (sJ (sI (sI z 1926 0 0 c v) 1927 0 0 c u) 1928 0 0 c t) 901 0 0 0 = nI c := fun _ _ _ => h
  rw [h, if_pos g, lt_k, n_cl (by omega), f1, if_pos g, lt_k, n_cl (by omega), f2, if_pos g, lt_k, n_cl (by omega), f3, lt_k, i_1, n_add]
  rfl
section TO
variable {T a : Nat} {σ ρ : Zs} {f : Nat → Nat} {κ : Int32} {w : Int64}
/-- the tape -/
def Tp (T : Nat) (f : Nat → Nat) (σ ρ : Zs) : Prop := T ≤ 1500 ∧ zI ρ 900 0 0 0 = nI T ∧ ∀ i : Nat, i < T → f i < 256 ∧ zI ρ 1923 0 0 i = nI (f i) ∧ zI σ 1728 0 0 i = sby (f i)
theorem byt_R (h : Tp T f σ ρ) {y : Nat} (hy : y < T) : fX14_byteAt (nI y) ρ = some (nI (f y), ρ) := by
  unfold fX14_byteAt
  obtain ⟨h1, h2, h3⟩ := h
  rw [h2, if_neg (fun z => by have := (n_le (by omega) (by omega)).mp z; omega), if_pos ((n_gi (by omega)).mpr (by omega)), n_cl (by omega), (h3 y hy).2.1]
theorem byt_E (h : Tp T f σ ρ) {y : Nat} (hy : T ≤ y) (hy2 : y < 2000) : fX14_byteAt (nI y) ρ = some (-1, ρ) := by
  unfold fX14_byteAt
  obtain ⟨h1, h2, h3⟩ := h
  rw [h2, if_pos ((n_le (by omega) (by omega)).mpr hy)]
-- words
noncomputable def fiC (e a : Nat) (w : Int64) (κ : Int32) (σ : Zs) : Option (Int32 × Zs) := if e - a ≤ 8 then bq (fX9_addToken κ (nI a) w σ) (fun _ z => some (nI e, z)) else bq (fX9_addToken 1 (nI a) w σ) fun _ z => some (nI e, z)
theorem sub_8 {e a k : Nat} (h : a ≤ e) (he : e ≤ 1500) (hk : k < 2000) : ((nI e - nI a : Int32) ≤ nI k) ↔ e - a ≤ k := by rw [n_sub h, n_le (by omega) (by omega)]
theorem kw_l0 {e : Nat} (hae : a ≤ e) (he : e ≤ 1500) (hK : ∀ i, i < 32 → zJ σ 1603 0 0 i = kwG i) : ∀ (k y n : Nat) (κ : Int32), y + k = 32 → k < n → (∀ j, y ≤ j → j < 32 → kwG j ≠ w) → fX9_scanWord_47 (nI T) (nI a) n (nI e) w κ (nI y) σ = fiC e a w κ σ := by
  intro k
  induction k with
  | zero =>
    intro y n κ h1 h2 h3
    obtain ⟨n, rfl⟩ : ∃ j, n = j + 1 := ⟨n - 1, by omega⟩
    rw [fX9_scanWord_47, i_32, if_pos ((n_le (by omega) (by omega)).mpr (by omega)), i_8]
    unfold fiC
    by_cases q : e - a ≤ 8
    · rw [if_pos ((sub_8 hae he (by omega)).mpr q), if_pos q]
    · rw [if_neg (fun z => q ((sub_8 hae he (by omega)).mp z)), if_neg q]
  | succ k ih =>
    intro y n κ h1 h2 h3
    obtain ⟨n, rfl⟩ : ∃ j, n = j + 1 := ⟨n - 1, by omega⟩
    rw [fX9_scanWord_47, i_32, if_neg (fun z => by have := (n_le (by omega) (by omega)).mp z; omega), if_pos ((n_gi (by omega)).mpr (by omega)), n_cl (by omega), hK y (by omega), if_neg (fun z => h3 y (Nat.le_refl _) (by omega) (l_cmp0.mp z)), i_1, n_add]
    exact ih (y + 1) n κ (by omega) (by omega) (fun j h4 h5 => h3 j (by omega) h5)
theorem kw_l1 {e j : Nat} (hae : a ≤ e) (he : e ≤ 1500) (hK : ∀ i, i < 32 → zJ σ 1603 0 0 i = kwG i) (hj : j < 32) (hw : kwG j = w) : ∀ (k y n : Nat) (κ : Int32), y + k = j → 32 < n + y → fX9_scanWord_47 (nI T) (nI a) n (nI e) w κ (nI y) σ = fiC e a w (nI (128 + j)) σ := by
  intro k
  induction k with
  | zero =>
    intro y n κ h1 h2
    obtain ⟨n, rfl⟩ : ∃ j, n = j + 1 := ⟨n - 1, by omega⟩
    have ey : y = j := by omega
    subst ey
    rw [fX9_scanWord_47, i_32, if_neg (fun z => by have := (n_le (by omega) (by omega)).mp z; omega), if_pos ((n_gi (by omega)).mpr (by omega)), n_cl (by omega), hK y (by omega), if_pos (l_cmp0.mpr hw), i_1, n_add, i_128, n_add]
    exact kw_l0 hae he hK (31 - y) (y + 1) n _ (by omega) (by omega) (fun i h4 h5 h6 => by
      have := kw_inj h5 hj (h6.trans hw.symm); omega)
  | succ k ih =>
    intro y n κ h1 h2
    obtain ⟨n, rfl⟩ : ∃ j, n = j + 1 := ⟨n - 1, by omega⟩
    rw [fX9_scanWord_47, i_32, if_neg (fun z => by have := (n_le (by omega) (by omega)).mp z; omega), if_pos ((n_gi (by omega)).mpr (by omega)), n_cl (by omega), hK y (by omega), if_neg (fun z => by have := kw_inj (show y < 32 by omega) hj ((l_cmp0.mp z).trans hw.symm); omega), i_1, n_add]
    exact ih (y + 1) n κ (by omega) (by omega)
noncomputable def fiR (e a : Nat) (w : Int64) (k7 : Int32 → Zs → Option (Unit × Zs)) (v : Int32) (ρ : Zs) : Option (Unit × Zs) := if e - a ≤ 8 then (if v = -1 then bq (fX14_token 200 (nI a) w ρ) (fun _ z => k7 (nI e) z) else bq (fX14_token v (nI a) w ρ) fun _ z => k7 (nI e) z) else bq (fX14_token 203 (nI a) w ρ) fun _ z => k7 (nI e) z
theorem wrd_l (h : Tp T f σ ρ) (ha : a < T) : ∀ (k y : Nat), y + k = T → a ≤ y → (∀ i, a ≤ i → i < y → wByte (f i)) → ∃ e, y ≤ e ∧ e ≤ T ∧ (∀ i, a ≤ i → i < e → wByte (f i)) ∧ (e < T → ¬ wByte (f e))
    ∧ (∀ n, k < n → fX9_scanWord_6 (nI T) (nI a) n (nI y) (pwI f a (y - a)) σ = fX9_scanWord_47 (nI T) (nI a) FU (nI e) (pwI f a (e - a)) 2 0 σ)
    ∧ ∀ n k7, k < n → fX14_cutTokens_95 k7 n (nI y) (nI a) (pwI f a (y - a)) ρ = bq (fX14_indexOf 1921 0 0 32 0 32 (pwI f a (e - a)) ρ) fun v z => fiR e a (pwI f a (e - a)) k7 v z := by
  obtain ⟨hT, hT2, hf⟩ := id h
  have stop : ∀ y n k7, a ≤ y → y ≤ T → (∃ b, fX14_byteAt (nI y) ρ = some (b, ρ) ∧ fX14_isLetter b ρ = some (0, ρ) ∧ fX14_isDigit b ρ = some (0, ρ)) → fX14_cutTokens_95 k7 (n + 1) (nI y) (nI a) (pwI f a (y - a)) ρ = bq (fX14_indexOf 1921 0 0 32 0 32 (pwI f a (y - a)) ρ) fun v z => fiR y a (pwI f a (y - a)) k7 v z := by
    intro y n k7 h1 h2 ⟨b, b1, b2, b3⟩
    rw [fX14_cutTokens_95, bq_e b1, bq_e b2, if00, bq_e b1, bq_e b3, if00]
    refine congrArg _ (funext fun v => funext fun z => ?_)
    unfold fiR
    rw [i_8]
    by_cases q : y - a ≤ 8
    · rw [if_pos ((sub_8 h1 (by omega) (by omega)).mpr q), if_pos q]
    · rw [if_neg (fun z => q ((sub_8 h1 (by omega) (by omega)).mp z)), if_neg q]
  intro k
  induction k with
  | zero =>
    intro y h1 h2 h3
    have ey : y = T := by omega
    subst ey
    refine ⟨y, Nat.le_refl _, Nat.le_refl _, h3, fun z => absurd z (Nat.lt_irrefl _), fun n hn => ?_, fun n k7 hn => ?_⟩
    · obtain ⟨n, rfl⟩ : ∃ j, n = j + 1 := ⟨n - 1, by omega⟩
      rw [fX9_scanWord_6, if_pos ((n_le (by omega) (by omega)).mpr (Nat.le_refl _))]
    · obtain ⟨n, rfl⟩ : ∃ j, n = j + 1 := ⟨n - 1, by omega⟩
      exact stop y n k7 h2 (Nat.le_refl _) ⟨-1, byt_E h (Nat.le_refl _) (by omega), let_m1, dig_m1⟩
  | succ k ih =>
    intro y h1 h2 h3
    have hy : y < T := by omega
    obtain ⟨c1, c2, c3⟩ := hf y hy
    have g : gi (nI y) 1500 := (n_gi (by omega)).mpr (by omega)
    have c3' : zI σ 1728 0 0 (Int32.toNatClampNeg (nI y)) = sby (f y) := by rw [n_cl (by omega)]; exact c3
    have hS : ∀ n, fX9_scanWord_6 (nI T) (nI a) (n + 1) (nI y) (pwI f a (y - a)) σ = bq (fX11_isWordByte (sby (f y)) σ) fun v z => if v = 0 then fX9_scanWord_47 (nI T) (nI a) FU (nI y) (pwI f a (y - a)) 2 0 z else if gi (nI y) 1500 then fX9_scanWord_6 (nI T) (nI a) n (nI y + 1) ((pwI f a (y - a) <<< ((8 : Int32).toInt64 &&& 63)) ||| (zI z 1728 0 0 (Int32.toNatClampNeg (nI y))).toInt64) z else none := fun n => by
      rw [fX9_scanWord_6, if_neg (fun z => by have := (n_le (by omega) (by omega)).mp z; omega), if_pos g, c3']
    have ew : ∀ {b : Nat}, b = f y → pwI f a (y + 1 - a) = (pwI f a (y - a) <<< ((8 : Int32).toInt64 &&& 63)) ||| lN b := fun {b} hb => by
      have e1 : y + 1 - a = (y - a) + 1 := by omega
      rw [e1, hb]
      show (pwI f a (y - a) <<< ((8 : Int32).toInt64 &&& 63)) ||| lN (f (a + (y - a))) = _
      rw [show a + (y - a) = y by omega]
    rcases wby_C (σ := σ) c1 with ⟨w1, w2⟩ | ⟨w1, w2⟩
    · obtain ⟨e, e1, e2, e3, e4, e5, e6⟩ := ih (y + 1) (by omega) (by omega) (fun i h4 h5 => by
        by_cases q : i = y
        · subst q; exact w1
        · exact h3 i h4 (by omega))
      rw [ew rfl] at e5 e6
      refine ⟨e, by omega, e2, e3, e4, fun n hn => ?_, fun n k7 hn => ?_⟩
      · obtain ⟨n, rfl⟩ : ∃ j, n = j + 1 := ⟨n - 1, by omega⟩
        rw [hS, bq_e w2, if10, if_pos g, c3', sby_l w1, i_1, n_add]
        exact e5 n (by omega)
      · obtain ⟨n, rfl⟩ : ∃ j, n = j + 1 := ⟨n - 1, by omega⟩
        have hb := byt_R h hy
        rw [fX14_cutTokens_95, bq_e hb, bq_e (let_R c1)]
        by_cases q : 97 ≤ f y ∧ f y ≤ 122
        · rw [if_pos q, if10, bq_e hb, n_i64 (by omega), i_1, n_add]
          exact e6 n k7 (by omega)
        · rw [if_neg q, if00, bq_e hb, bq_e (dig_R c1), if_pos (w1.resolve_left q), if10, bq_e hb, n_i64 (by omega), i_1, n_add]
          exact e6 n k7 (by omega)
    · refine ⟨y, Nat.le_refl _, by omega, h3, fun _ => w1, fun n hn => ?_, fun n k7 hn => ?_⟩
      · obtain ⟨n, rfl⟩ : ∃ j, n = j + 1 := ⟨n - 1, by omega⟩
        rw [hS, bq_e w2, if00]
      · obtain ⟨n, rfl⟩ : ∃ j, n = j + 1 := ⟨n - 1, by omega⟩
        refine stop y n k7 h2 (by omega) ⟨_, byt_R h hy, ?_, ?_⟩
        · rw [let_R c1, if_neg (fun z => w1 (Or.inl z))]
        · rw [dig_R c1, if_neg (fun z => w1 (Or.inr z))]
-- numbers
theorem num_l (h : Tp T f σ ρ) (ha : a < T) : ∀ (k y : Nat), y + k = T → a ≤ y → (∀ i, a ≤ i → i < y → 48 ≤ f i ∧ f i ≤ 57) → ∀ wc wr : Int64, (y - a ≤ 9 → wc = lN (nuN f a (y - a)) ∧ wr = lN (nuN f a (y - a))) → ∃ e wc' wr', y ≤ e ∧ e ≤ T ∧ (∀ i, a ≤ i → i < e → 48 ≤ f i ∧ f i ≤ 57) ∧ (e - a ≤ 9 → wc' = lN (nuN f a (e - a)) ∧ wr' = lN (nuN f a (e - a))) ∧ (e < T → ¬ (48 ≤ f e ∧ f e ≤ 57))
    ∧ (∀ n, k < n → fX9_scanNumber_6 (nI T) (nI a) n (nI y) wc σ = fX9_scanNumber_45 (nI T) (nI a) (nI e) wc' σ)
    ∧ ∀ n k7, k < n → fX14_cutTokens_199 k7 n (nI y) (nI a) wr ρ = (if e - a ≤ 9 then bq (fX14_token 201 (nI a) wr' ρ) (fun _ z => k7 (nI e) z) else bq (fX14_token 203 (nI a) wr' ρ) fun _ z => k7 (nI e) z) := by
  obtain ⟨hT, hT2, hf⟩ := id h
  have stop : ∀ y n k7 (wr : Int64), a ≤ y → y ≤ T → (∃ b, fX14_byteAt (nI y) ρ = some (b, ρ) ∧ fX14_isDigit b ρ = some (0, ρ)) → fX14_cutTokens_199 k7 (n + 1) (nI y) (nI a) wr ρ = (if y - a ≤ 9 then bq (fX14_token 201 (nI a) wr ρ) (fun _ z => k7 (nI y) z) else bq (fX14_token 203 (nI a) wr ρ) fun _ z => k7 (nI y) z) := by
    intro y n k7 wr h1 h2 ⟨b, b1, b3⟩
    rw [fX14_cutTokens_199, bq_e b1, bq_e b3, if00, i_9]
    by_cases q : y - a ≤ 9
    · rw [if_pos ((sub_8 h1 (by omega) (by omega)).mpr q), if_pos q]
    · rw [if_neg (fun z => q ((sub_8 h1 (by omega) (by omega)).mp z)), if_neg q]
  intro k
  induction k with
  | zero =>
    intro y h1 h2 h3 wc wr hw
    have ey : y = T := by omega
    subst ey
    refine ⟨y, wc, wr, Nat.le_refl _, Nat.le_refl _, h3, hw, fun z => absurd z (Nat.lt_irrefl _), fun n hn => ?_, fun n k7 hn => ?_⟩
    · obtain ⟨n, rfl⟩ : ∃ j, n = j + 1 := ⟨n - 1, by omega⟩
      rw [fX9_scanNumber_6, if_pos ((n_le (by omega) (by omega)).mpr (Nat.le_refl _))]
    · obtain ⟨n, rfl⟩ : ∃ j, n = j + 1 := ⟨n - 1, by omega⟩
      exact stop y n k7 wr h2 (Nat.le_refl _) ⟨-1, byt_E h (Nat.le_refl _) (by omega), dig_m1⟩
  | succ k ih =>
    intro y h1 h2 h3 wc wr hw
    have hy : y < T := by omega
    obtain ⟨c1, c2, c3⟩ := hf y hy
    have g : gi (nI y) 1500 := (n_gi (by omega)).mpr (by omega)
    have c3' : zI σ 1728 0 0 (Int32.toNatClampNeg (nI y)) = sby (f y) := by rw [n_cl (by omega)]; exact c3
    have hS : ∀ n, fX9_scanNumber_6 (nI T) (nI a) (n + 1) (nI y) wc σ = bq (fX11_isDigit (sby (f y)) σ) fun v z => if v = 0 then fX9_scanNumber_45 (nI T) (nI a) (nI y) wc z else if gi (nI y) 1500 then fX9_scanNumber_6 (nI T) (nI a) n (nI y + 1) ((wc * 10) + ((zI z 1728 0 0 (Int32.toNatClampNeg (nI y)) - 48 : Int32).toInt64)) z else none := fun n => by
      rw [fX9_scanNumber_6, if_neg (fun z => by have := (n_le (by omega) (by omega)).mp z; omega), if_pos g, c3']
    by_cases q : 48 ≤ f y ∧ f y ≤ 57
    · have sb : sby (f y) = nI (f y) := by unfold sby; rw [if_pos (by omega)]
      have eC : (sby (f y) - 48 : Int32).toInt64 = lN (f y - 48) := by rw [sb, i_48, n_sub q.1, n_i64 (by omega)]
      have hb := byt_R h hy
      have hd : ∀ i, a ≤ i → i < y + 1 → 48 ≤ f i ∧ f i ≤ 57 := fun i h4 h5 => by
        by_cases q2 : i = y
        · subst q2; exact q
        · exact h3 i h4 (by omega)
      have e1 : y + 1 - a = (y - a) + 1 := by omega
      have eN : nuN f a (y + 1 - a) = 10 * nuN f a (y - a) + (f y - 48) := by
        rw [e1]
        show 10 * nuN f a (y - a) + (f (a + (y - a)) - 48) = _
        rw [show a + (y - a) = y by omega]
      have hlt : y - a ≤ 9 → nuN f a (y - a) < 10 ^ 9 := fun q9 => Nat.lt_of_lt_of_le (nuN_lt (y - a) (fun i hi => h3 (a + i) (by omega) (by omega))) (Nat.pow_le_pow_right (by decide) q9)
      have hR : ∀ n k7, fX14_cutTokens_199 k7 (n + 1) (nI y) (nI a) wr ρ = fX14_cutTokens_199 k7 n (nI (y + 1)) (nI a) (if 9 ≤ y - a then 0 else ((10 * wr + lN (f y)) - 48)) ρ := fun n k7 => by
        rw [fX14_cutTokens_199, bq_e hb, bq_e (dig_R c1), if_pos q, if10, i_9, n_sub h2]
        by_cases q9 : 9 ≤ y - a
        · rw [if_pos ((n_le (by omega) (by omega)).mpr q9), if_pos q9, i_1, n_add]
        · rw [if_neg (fun z => q9 ((n_le (by omega) (by omega)).mp z)), if_neg q9, bq_e hb, n_i64 (by omega), i_1, n_add]
      obtain ⟨e, wc', wr', e1', e2, e3, e4, e7, e5, e6⟩ := ih (y + 1) (by omega) (by omega) hd (wc * 10 + lN (f y - 48)) (if 9 ≤ y - a then 0 else ((10 * wr + lN (f y)) - 48)) (fun q9 => by
        obtain ⟨v1, v2⟩ := hw (by omega)
        have hl := hlt (by omega)
        have p9 : (10 : Nat) ^ 9 = 1000000000 := by decide
        rw [p9] at hl
        have l10 : (10 : Int64) = lN 10 := rfl
        have l48 : (48 : Int64) = lN 48 := rfl
        rw [if_neg (by omega), v1, v2, eN, l10, l48, lN_mul, lN_mul, lN_add, lN_add, lN_sub (by omega)]
        refine ⟨?_, ?_⟩
        · congr 1; omega
        · congr 1; omega)
      refine ⟨e, wc', wr', by omega, e2, e3, e4, e7, fun n hn => ?_, fun n k7 hn => ?_⟩
      · obtain ⟨n, rfl⟩ : ∃ j, n = j + 1 := ⟨n - 1, by omega⟩
        rw [hS, bq_e (dig_C c1), if_pos q, if10, if_pos g, c3', eC, i_1, n_add]
        exact e5 n (by omega)
      · obtain ⟨n, rfl⟩ : ∃ j, n = j + 1 := ⟨n - 1, by omega⟩
        rw [hR]
        exact e6 n k7 (by omega)
    · refine ⟨y, wc, wr, Nat.le_refl _, by omega, h3, hw, fun _ => q, fun n hn => ?_, fun n k7 hn => ?_⟩
      · obtain ⟨n, rfl⟩ : ∃ j, n = j + 1 := ⟨n - 1, by omega⟩
        rw [hS, bq_e (dig_C c1), if_neg q, if00]
      · obtain ⟨n, rfl⟩ : ∃ j, n = j + 1 := ⟨n - 1, by omega⟩
        exact stop y n k7 wr h2 (by omega) ⟨_, byt_R h hy, by rw [dig_R c1, if_neg q]⟩
end TO
