/-! LEAVES: what the class does to rows, tables, windows, held rows, in closed form -/
/-! THE PURE PART: runs of lifted methods that end well (Wp1), pairs of them (Wp2), numbers -/
def Wp1 {α : Type} (o : Option (α × Zs)) (Q : α → Zs → Prop) : Prop := match o with
  | some (v, z) => Q v z
  | none => False
def Wp2 {α β : Type} (o : Option (α × Zs)) (r : Option (β × Zs)) (Q : α → Zs → β → Zs → Prop) : Prop := Wp1 o fun v z => Wp1 r fun w y => Q v z w y
section WP
variable {α β γ δ : Type} {o : Option (α × Zs)} {r : Option (β × Zs)} {z y : Zs} {v : α} {w : β}
theorem wp_s {Q : α → Zs → Prop} : Wp1 (some (v, z)) Q = Q v z := rfl
theorem wp_ex {Q : α → Zs → Prop} (h : Wp1 o Q) : ∃ v z, o = some (v, z) ∧ Q v z := by
  rcases o with _ | ⟨v, z⟩
  · exact h.elim
  · exact ⟨v, z, rfl, h⟩
theorem wp_of {Q : α → Zs → Prop} (e : o = some (v, z)) (h : Q v z) : Wp1 o Q := by subst e; exact h
theorem wp_m {Q R : α → Zs → Prop} (h : Wp1 o Q) (k : ∀ v z, Q v z → R v z) : Wp1 o R := by
  rcases o with _ | ⟨v, z⟩
  · exact h
  · exact k _ _ h
theorem wp_q {k : α → Zs → Option (γ × Zs)} {Q : γ → Zs → Prop} (h : Wp1 o fun v z => Wp1 (k v z) Q) : Wp1 (bq o k) Q := by
  rcases o with _ | ⟨v, z⟩
  · exact h
  · exact h
theorem bq_s {k : α → Zs → Option γ} : bq (some (v, z)) k = k v z := by rw [bq]
theorem bq_e {k : α → Zs → Option γ} (e : o = some (v, z)) : bq o k = k v z := by rw [e]; rfl
theorem lt_k {k : Zs → Option α} : lt z k = k z := by rw [lt]
theorem w2_s {Q : α → Zs → β → Zs → Prop} : Wp2 (some (v, z)) (some (w, y)) Q = Q v z w y := rfl
theorem w2_ex {Q : α → Zs → β → Zs → Prop} (h : Wp2 o r Q) : ∃ v z w y, o = some (v, z) ∧ r = some (w, y) ∧ Q v z w y := by
  obtain ⟨v, z, e, h⟩ := wp_ex h
  obtain ⟨w, y, e2, h⟩ := wp_ex h
  exact ⟨v, z, w, y, e, e2, h⟩
theorem w2_of {Q : α → Zs → β → Zs → Prop} (e : o = some (v, z)) (e2 : r = some (w, y)) (h : Q v z w y) : Wp2 o r Q := by subst e e2; exact h
theorem w2_m {Q R : α → Zs → β → Zs → Prop} (h : Wp2 o r Q) (k : ∀ v z w y, Q v z w y → R v z w y) : Wp2 o r R :=
  wp_m h fun _ _ h => wp_m h fun _ _ h => k _ _ _ _ h
/-- one step of the first run -/
theorem w2_l {k : α → Zs → Option (γ × Zs)} {Q : γ → Zs → β → Zs → Prop} (h : Wp1 o fun v z => Wp2 (k v z) r Q) : Wp2 (bq o k) r Q := wp_q h
/-- one step of the second run -/
theorem w2_r {k : β → Zs → Option (γ × Zs)} {Q : α → Zs → γ → Zs → Prop} (h : Wp1 r fun w y => Wp2 o (k w y) Q) : Wp2 o (bq r k) Q := by
  obtain ⟨w, y, e, h⟩ := wp_ex h
  subst e
  exact h
/-- a step of both -/
theorem w2_b {k : α → Zs → Option (γ × Zs)} {l : β → Zs → Option (δ × Zs)} {Q : γ → Zs → δ → Zs → Prop} (h : Wp2 o r fun v z w y => Wp2 (k v z) (l w y) Q) : Wp2 (bq o k) (bq r l) Q := by
  obtain ⟨v, z, w, y, e, e2, h⟩ := w2_ex h
  subst e e2
  exact h
theorem w2_le {k : α → Zs → Option (γ × Zs)} {Q : γ → Zs → β → Zs → Prop} (e : o = some (v, z)) (h : Wp2 (k v z) r Q) : Wp2 (bq o k) r Q := by subst e; exact h
theorem w2_re {k : β → Zs → Option (γ × Zs)} {Q : α → Zs → γ → Zs → Prop} (e : r = some (w, y)) (h : Wp2 o (k w y) Q) : Wp2 o (bq r k) Q := by subst e; exact h
theorem w2_tl {c : Prop} [Decidable c] {a b : Option (α × Zs)} {Q : α → Zs → β → Zs → Prop} (q : c) (h : Wp2 a r Q) : Wp2 (if c then a else b) r Q := by rw [if_pos q]; exact h
theorem w2_fl {c : Prop} [Decidable c] {a b : Option (α × Zs)} {Q : α → Zs → β → Zs → Prop} (q : ¬ c) (h : Wp2 b r Q) : Wp2 (if c then a else b) r Q := by rw [if_neg q]; exact h
theorem w2_tr {c : Prop} [Decidable c] {a b : Option (β × Zs)} {Q : α → Zs → β → Zs → Prop} (q : c) (h : Wp2 o a Q) : Wp2 o (if c then a else b) Q := by rw [if_pos q]; exact h
theorem w2_fr {c : Prop} [Decidable c] {a b : Option (β × Zs)} {Q : α → Zs → β → Zs → Prop} (q : ¬ c) (h : Wp2 o b Q) : Wp2 o (if c then a else b) Q := by rw [if_neg q]; exact h
theorem wp_t {c : Prop} [Decidable c] {a b : Option (α × Zs)} {Q : α → Zs → Prop} (q : c) (h : Wp1 a Q) : Wp1 (if c then a else b) Q := by rw [if_pos q]; exact h
theorem wp_f {c : Prop} [Decidable c] {a b : Option (α × Zs)} {Q : α → Zs → Prop} (q : ¬ c) (h : Wp1 b Q) : Wp1 (if c then a else b) Q := by rw [if_neg q]; exact h
theorem w2_kl {k : Zs → Option (α × Zs)} {Q : α → Zs → β → Zs → Prop} (h : ∀ y, y = z → Wp2 (k y) r Q) : Wp2 (lt z k) r Q := by rw [lt_k]; exact h z rfl
theorem w2_kr {k : Zs → Option (β × Zs)} {Q : α → Zs → β → Zs → Prop} (h : ∀ y, y = z → Wp2 o (k y) Q) : Wp2 o (lt z k) Q := by rw [lt_k]; exact h z rfl
theorem wp_k {k : Zs → Option (α × Zs)} {Q : α → Zs → Prop} (h : ∀ y, y = z → Wp1 (k y) Q) : Wp1 (lt z k) Q := by rw [lt_k]; exact h z rfl
end WP
/-! numbers -/
theorem n_lit (k : Nat) : (OfNat.ofNat k : Int32) = nI k := rfl
theorem n_l0 : (0 : Int32) = nI 0 := rfl
theorem n_l1 : (1 : Int32) = nI 1 := rfl
theorem n_cl {a : Nat} (h : a < 2147483648) : Int32.toNatClampNeg (nI a) = a := nI_clamp h
theorem n_gi {a n : Nat} (h : a < 2147483648) : gi (nI a) n ↔ a < n := by
  unfold gi
  rw [nI_clamp h]
  constructor
  · intro q; exact Nat.lt_of_not_le fun q2 => q (Or.inr q2)
  · intro q q2
    rcases q2 with q2 | q2
    · exact nI_pos h q2
    · omega
theorem n_le {a b : Nat} (h : a < 2147483648) (h2 : b < 2147483648) : nI a ≤ nI b ↔ a ≤ b := nI_leI h h2
theorem n_lt {a b : Nat} (h : a < 2147483648) (h2 : b < 2147483648) : nI a < nI b ↔ a < b := nI_ltI h h2
theorem n_eq {a b : Nat} (h : a < 2147483648) (h2 : b < 2147483648) : nI a = nI b ↔ a = b := nI_eq h h2
theorem n_m1i : (-nI 1 : Int32).toInt = -1 := rfl
theorem n_m1 {a : Nat} (h : a < 2147483648) : (nI a = -nI 1) ↔ False := by
  constructor
  · intro q
    have := congrArg Int32.toInt q
    rw [nI_toInt h, n_m1i] at this
    omega
  · exact False.elim
theorem n_m1' {a : Nat} (h : a < 2147483648) : (-nI 1 = nI a) ↔ False := by rw [eq_comm]; exact n_m1 h
theorem n_m1l {a : Nat} (h : a < 2147483648) : (nI a ≤ -nI 1) ↔ False := by
  rw [Int32.le_iff_toInt_le, nI_toInt h, n_m1i]
  exact ⟨fun q => by omega, False.elim⟩
theorem n_m1t {a : Nat} (h : a < 2147483648) : (-nI 1 < nI a) ↔ True := by
  rw [Int32.lt_iff_toInt_lt, nI_toInt h, n_m1i]
  exact ⟨fun _ => trivial, fun _ => by omega⟩
theorem n_m1g {a : Nat} (h : a < 2147483648) : (nI a < -nI 1) ↔ False := by
  rw [Int32.lt_iff_toInt_lt, nI_toInt h, n_m1i]
  exact ⟨fun q => by omega, False.elim⟩
theorem n_m1le {a : Nat} (h : a < 2147483648) : (-nI 1 ≤ nI a) ↔ True := by
  rw [Int32.le_iff_toInt_le, nI_toInt h, n_m1i]
  exact ⟨fun _ => trivial, fun _ => by omega⟩
theorem n_gim {n : Nat} : gi (-nI 1) n ↔ False := by
  constructor
  · intro q; exact q (Or.inl (by decide))
  · exact False.elim
theorem n_sub {a b : Nat} (h : b ≤ a) : nI a - nI b = nI (a - b) := pk_sub h
theorem n_mul (a b : Nat) : nI a * nI b = nI (a * b) := pk_mul a b
theorem n_add (a b : Nat) : nI a + nI b = nI (a + b) := nI_add a b
theorem n_p1 {a : Nat} (h : 1 ≤ a) : nI a + -nI 1 = nI (a - 1) := by
  obtain ⟨b, rfl⟩ : ∃ b, a = b + 1 := ⟨a - 1, by omega⟩
  exact pk_m1 b
theorem n_i64 {a : Nat} (h : a < 2147483648) : (nI a).toInt64 = lN a := nI_l h
theorem l_lit (k : Nat) : (OfNat.ofNat k : Int64) = lN k := rfl
theorem l_cmp0 {a b : Int64} : lg_cmp a b = 0 ↔ a = b := by
  unfold lg_cmp
  by_cases h : a > b
  · rw [if_pos h]
    constructor
    · intro q; exact absurd q (by decide)
    · intro q; subst q; exact absurd h (Int64.lt_irrefl)
  · rw [if_neg h]
    by_cases h2 : a = b
    · rw [if_pos h2]; exact ⟨fun _ => h2, fun _ => rfl⟩
    · rw [if_neg h2]
      constructor
      · intro q; exact absurd q (by decide)
      · intro q; exact absurd q h2
theorem l_cmplt {a b : Int64} : lg_cmp a b < 0 ↔ a < b := by
  unfold lg_cmp
  by_cases h : a > b
  · rw [if_pos h]
    constructor
    · intro q; exact absurd q (by decide)
    · intro q; exact absurd (Int64.lt_trans h q) Int64.lt_irrefl
  · rw [if_neg h]
    by_cases h2 : a = b
    · rw [if_pos h2]
      constructor
      · intro q; exact absurd q (by decide)
      · intro q; subst h2; exact absurd q Int64.lt_irrefl
    · rw [if_neg h2]
      constructor
      · intro _
        rw [Int64.lt_iff_toInt_lt]
        have h3 : ¬ b.toInt < a.toInt := fun q => h (Int64.lt_iff_toInt_lt.mpr q)
        have h4 : ¬ a.toInt = b.toInt := fun q => h2 (Int64.toInt_inj.mp q)
        omega
      · intro _; decide
theorem l_cmpgt {a b : Int64} : 0 < lg_cmp a b ↔ b < a := by
  unfold lg_cmp
  by_cases h : a > b
  · rw [if_pos h]; exact ⟨fun _ => h, fun _ => by decide⟩
  · rw [if_neg h]
    by_cases h2 : a = b
    · rw [if_pos h2]
      constructor
      · intro q; exact absurd q (by decide)
      · intro q; exact absurd q h
    · rw [if_neg h2]
      constructor
      · intro q; exact absurd q (by decide)
      · intro q; exact absurd q h
theorem l_nlt {a b : Int64} : ¬ a < b ↔ b ≤ a := by rw [Int64.lt_iff_toInt_lt, Int64.le_iff_toInt_le]; omega
theorem i_nlt {a b : Int32} : ¬ a < b ↔ b ≤ a := by rw [Int32.lt_iff_toInt_lt, Int32.le_iff_toInt_le]; omega
theorem i_nle {a b : Int32} : ¬ a ≤ b ↔ b < a := by rw [Int32.lt_iff_toInt_lt, Int32.le_iff_toInt_le]; omega
theorem l_cmpge {a b : Int64} : 0 ≤ lg_cmp a b ↔ b ≤ a := by rw [← i_nlt, l_cmplt, l_nlt]
theorem l_cmple {a b : Int64} : lg_cmp a b ≤ 0 ↔ a ≤ b := by
  rw [← l_nlt, ← l_cmpgt, i_nlt]
/-- a whole row written anew -/
def jJ (z : Zs) (c p s : Nat) (f : Nat → Int64) : Zs := (zI z, fun c' p' s' i' => if c' = c ∧ p' = p ∧ s' = s then f i' else zJ z c' p' s' i', zR z)
theorem zI_jJ (z : Zs) (c p s : Nat) (f : Nat → Int64) : zI (jJ z c p s f) = zI z := rfl
theorem zR_jJ (z : Zs) (c p s : Nat) (f : Nat → Int64) : zR (jJ z c p s f) = zR z := rfl
theorem zJ_jJ (z : Zs) (c p s c' p' s' i' : Nat) (f : Nat → Int64) : zJ (jJ z c p s f) c' p' s' i' = if c' = c ∧ p' = p ∧ s' = s then f i' else zJ z c' p' s' i' := rfl
theorem zs_ext {z y : Zs} (h1 : ∀ c p s i, zI z c p s i = zI y c p s i) (h2 : ∀ c p s i, zJ z c p s i = zJ y c p s i) (h3 : ∀ c p s i, zR z c p s i = zR y c p s i) : z = y := by
  obtain ⟨a, b, c⟩ := z
  obtain ⟨a2, b2, c2⟩ := y
  have e1 : a = a2 := by funext c p s i; exact h1 c p s i
  have e2 : b = b2 := by funext c p s i; exact h2 c p s i
  have e3 : c = c2 := by funext c p s i; exact h3 c p s i
  rw [e1, e2, e3]
theorem jJ_jJ (z : Zs) (c p s : Nat) (f g : Nat → Int64) : jJ (jJ z c p s f) c p s g = jJ z c p s g := by
  refine zs_ext (fun _ _ _ _ => rfl) (fun c' p' s' i' => ?_) (fun _ _ _ _ => rfl)
  rw [zJ_jJ, zJ_jJ, zJ_jJ]
  by_cases h : c' = c ∧ p' = p ∧ s' = s
  · rw [if_pos h, if_pos h]
  · rw [if_neg h, if_neg h, if_neg h]
theorem sJ_j (z : Zs) (c p s i : Nat) (x : Int64) : sJ z c p s i x = jJ z c p s (fun j => if j = i then x else zJ z c p s j) := by
  refine zs_ext (fun _ _ _ _ => rfl) (fun c' p' s' i' => ?_) (fun _ _ _ _ => rfl)
  rw [zJ_sJ, zJ_jJ]
  by_cases h : c' = c ∧ p' = p ∧ s' = s
  · rw [if_pos h]
    obtain ⟨rfl, rfl, rfl⟩ := h
    by_cases h2 : i' = i
    · rw [if_pos ⟨rfl, rfl, rfl, h2⟩, if_pos h2]
    · rw [if_neg (fun q => h2 q.2.2.2), if_neg h2]
  · rw [if_neg h, if_neg (fun q => h ⟨q.1, q.2.1, q.2.2.1⟩)]
theorem i_0 : (0 : Int32) = nI 0 := rfl
theorem i_1 : (1 : Int32) = nI 1 := rfl
theorem i_2 : (2 : Int32) = nI 2 := rfl
theorem i_3 : (3 : Int32) = nI 3 := rfl
theorem i_4 : (4 : Int32) = nI 4 := rfl
theorem i_5 : (5 : Int32) = nI 5 := rfl
theorem i_6 : (6 : Int32) = nI 6 := rfl
theorem i_7 : (7 : Int32) = nI 7 := rfl
theorem i_8 : (8 : Int32) = nI 8 := rfl
theorem i_9 : (9 : Int32) = nI 9 := rfl
theorem i_10 : (10 : Int32) = nI 10 := rfl
theorem i_12 : (12 : Int32) = nI 12 := rfl
theorem i_15 : (15 : Int32) = nI 15 := rfl
theorem i_17 : (17 : Int32) = nI 17 := rfl
theorem i_19 : (19 : Int32) = nI 19 := rfl
theorem i_21 : (21 : Int32) = nI 21 := rfl
theorem i_22 : (22 : Int32) = nI 22 := rfl
theorem i_23 : (23 : Int32) = nI 23 := rfl
theorem i_24 : (24 : Int32) = nI 24 := rfl
theorem i_25 : (25 : Int32) = nI 25 := rfl
theorem i_26 : (26 : Int32) = nI 26 := rfl
theorem i_27 : (27 : Int32) = nI 27 := rfl
theorem i_28 : (28 : Int32) = nI 28 := rfl
theorem i_29 : (29 : Int32) = nI 29 := rfl
theorem i_30 : (30 : Int32) = nI 30 := rfl
theorem i_31 : (31 : Int32) = nI 31 := rfl
theorem i_32 : (32 : Int32) = nI 32 := rfl
theorem i_40 : (40 : Int32) = nI 40 := rfl
theorem i_41 : (41 : Int32) = nI 41 := rfl
theorem i_42 : (42 : Int32) = nI 42 := rfl
theorem i_44 : (44 : Int32) = nI 44 := rfl
theorem i_48 : (48 : Int32) = nI 48 := rfl
theorem i_50 : (50 : Int32) = nI 50 := rfl
theorem i_57 : (57 : Int32) = nI 57 := rfl
theorem i_60 : (60 : Int32) = nI 60 := rfl
theorem i_61 : (61 : Int32) = nI 61 := rfl
theorem i_97 : (97 : Int32) = nI 97 := rfl
theorem i_100 : (100 : Int32) = nI 100 := rfl
theorem i_101 : (101 : Int32) = nI 101 := rfl
theorem i_102 : (102 : Int32) = nI 102 := rfl
theorem i_103 : (103 : Int32) = nI 103 := rfl
theorem i_104 : (104 : Int32) = nI 104 := rfl
theorem i_105 : (105 : Int32) = nI 105 := rfl
theorem i_106 : (106 : Int32) = nI 106 := rfl
theorem i_107 : (107 : Int32) = nI 107 := rfl
theorem i_109 : (109 : Int32) = nI 109 := rfl
theorem i_122 : (122 : Int32) = nI 122 := rfl
theorem i_128 : (128 : Int32) = nI 128 := rfl
theorem i_129 : (129 : Int32) = nI 129 := rfl
theorem i_130 : (130 : Int32) = nI 130 := rfl
theorem i_131 : (131 : Int32) = nI 131 := rfl
theorem i_133 : (133 : Int32) = nI 133 := rfl
theorem i_135 : (135 : Int32) = nI 135 := rfl
theorem i_136 : (136 : Int32) = nI 136 := rfl
theorem i_137 : (137 : Int32) = nI 137 := rfl
theorem i_140 : (140 : Int32) = nI 140 := rfl
theorem i_142 : (142 : Int32) = nI 142 := rfl
theorem i_145 : (145 : Int32) = nI 145 := rfl
theorem i_147 : (147 : Int32) = nI 147 := rfl
theorem i_148 : (148 : Int32) = nI 148 := rfl
theorem i_149 : (149 : Int32) = nI 149 := rfl
theorem i_150 : (150 : Int32) = nI 150 := rfl
theorem i_151 : (151 : Int32) = nI 151 := rfl
theorem i_152 : (152 : Int32) = nI 152 := rfl
theorem i_153 : (153 : Int32) = nI 153 := rfl
theorem i_154 : (154 : Int32) = nI 154 := rfl
theorem i_155 : (155 : Int32) = nI 155 := rfl
theorem i_200 : (200 : Int32) = nI 200 := rfl
theorem i_201 : (201 : Int32) = nI 201 := rfl
theorem i_202 : (202 : Int32) = nI 202 := rfl
theorem i_203 : (203 : Int32) = nI 203 := rfl
theorem i_255 : (255 : Int32) = nI 255 := rfl
theorem i_256 : (256 : Int32) = nI 256 := rfl
theorem i_420 : (420 : Int32) = nI 420 := rfl
theorem i_720 : (720 : Int32) = nI 720 := rfl
theorem i_1000 : (1000 : Int32) = nI 1000 := rfl
theorem i_1480 : (1480 : Int32) = nI 1480 := rfl
theorem i_1500 : (1500 : Int32) = nI 1500 := rfl
theorem i_1501 : (1501 : Int32) = nI 1501 := rfl
theorem i_3000 : (3000 : Int32) = nI 3000 := rfl
theorem i_16800 : (16800 : Int32) = nI 16800 := rfl
theorem i_1000000 : (1000000 : Int32) = nI 1000000 := rfl
theorem n_nz {a : Nat} : (a < 0) ↔ False := ⟨fun h => absurd h (Nat.not_lt_zero a), False.elim⟩
section TKa
variable {P p3 s3 L e s w y : Nat} {x1 : Int32} {σ ρ : Zs} {n m h j t q : Nat}
theorem jJ_self (z : Zs) (c p s : Nat) : jJ z c p s (zJ z c p s) = z := by
  refine zs_ext (fun _ _ _ _ => rfl) (fun c' p' s' i' => ?_) (fun _ _ _ _ => rfl)
  rw [zJ_jJ]
  by_cases h : c' = c ∧ p' = p ∧ s' = s
  · rw [if_pos h]; obtain ⟨rfl, rfl, rfl⟩ := h; rfl
  · rw [if_neg h]
theorem jJ_sJ (z : Zs) (c p s i : Nat) (x : Int64) (f : Nat → Int64) : jJ (sJ z c p s i x) c p s f = jJ z c p s f := by rw [sJ_j, jJ_jJ]
end TKa
def opT : List (Int32 × Int32) := [(43, 10), (45, 11), (42, 12), (47, 13), (37, 14), (61, 20), (15422, 21), (60, 22), (62, 23), (15421, 24), (15933, 25), (156, 30), (157, 31), (152, 32), (153, 33)]
def opF : List (Int32 × Int32) → Int32 → Option Int32
  | [], _ => none
  | (a, b) :: l, c => if c = a then some b else opF l c
section TKb
variable {P p3 s3 L e s w y : Nat} {x1 : Int32} {σ ρ : Zs} {n m h j t q : Nat}
theorem opF_c {c b : Int32} (h : opF opT c = some b) : (c = 43 ∧ b = 10) ∨ (c = 45 ∧ b = 11) ∨ (c = 42 ∧ b = 12) ∨ (c = 47 ∧ b = 13) ∨ (c = 37 ∧ b = 14) ∨ (c = 61 ∧ b = 20) ∨ (c = 15422 ∧ b = 21) ∨ (c = 60 ∧ b = 22) ∨ (c = 62 ∧ b = 23) ∨ (c = 15421 ∧ b = 24) ∨ (c = 15933 ∧ b = 25) ∨ (c = 156 ∧ b = 30) ∨ (c = 157 ∧ b = 31) ∨ (c = 152 ∧ b = 32) ∨ (c = 153 ∧ b = 33) := by
  have key : ∀ (l : List (Int32 × Int32)), opF l c = some b → (c, b) ∈ l := by
    intro l
    induction l with
    | nil => intro h; cases h
    | cons o l ih =>
      intro h
      obtain ⟨x, y⟩ := o
      unfold opF at h
      by_cases q : c = x
      · rw [if_pos q] at h
        cases h
        subst q
        exact List.mem_cons_self
      · rw [if_neg q] at h
        exact List.mem_cons_of_mem _ (ih h)
  have := key opT h
  simpa only [opT, List.mem_cons, List.not_mem_nil, or_false, Prod.mk.injEq] using this
theorem k_num (h1 : ¬ j < 0) (h2 : ¬ e ≤ j) (h3 : ¬ L ≤ j) (hj : j < 1500) (he : e < 2147483648) (hL : L ≤ 1500) (hl : zI σ 326 P 0 0 = nI L) (ho : zI σ 1348 P 0 j = 3) (hh : h < 60) (hh2 : ¬ 60 ≤ h) :
    fX5_reckon_6 P x1 (nI e) p3 s3 (n + 1) (nI h) (nI j) σ = fX5_reckon_6 P x1 (nI e) p3 s3 n (nI (h + 1)) (nI (j + 1)) (sJ σ 1351 P 0 h (zJ σ 1349 P 0 j)) := by
  rw [fX5_reckon_6]
  simp (disch := omega) only [i_0, i_1, i_2, i_60, n_lt, n_le, n_gi, n_cl, n_add, n_p1, n_sub, hl, h1, h2, h3, hj, ↓reduceIte, lt_k, bq_s, ho, hh, hh2, fX5_reckon_55]
  rfl
theorem k_col (h1 : ¬ j < 0) (h2 : ¬ e ≤ j) (h3 : ¬ L ≤ j) (hj : j < 1500) (he : e < 2147483648) (hL : L ≤ 1500) (hl : zI σ 326 P 0 0 = nI L) (ho : zI σ 1348 P 0 j = 2) (hv : zJ σ 1349 P 0 j = lN q) (hq : q < 6) (hq2 : ¬ 6 ≤ q) (hh : h < 60) (hh2 : ¬ 60 ≤ h) :
    fX5_reckon_6 P x1 (nI e) p3 s3 (n + 1) (nI h) (nI j) σ = fX5_reckon_6 P x1 (nI e) p3 s3 n (nI (h + 1)) (nI (j + 1)) (sJ σ 1351 P 0 h (zJ σ 1410 p3 s3 q)) := by
  have e1 : fX6_numberAt p3 s3 (nI q) σ = some (zJ σ 1410 p3 s3 q, σ) := by
    rw [fX6_numberAt]
    have h4 : ¬ q < 0 := by omega
    simp (disch := omega) only [i_0, i_6, n_lt, n_le, n_gi, n_cl, h4, hq, hq2, ↓reduceIte]
  rw [fX5_reckon_6]
  simp (disch := omega) only [i_0, i_1, i_2, i_60, n_lt, n_le, n_gi, n_cl, n_add, n_p1, n_sub, hl, h1, h2, h3, hj, ↓reduceIte, lt_k, bq_s, ho, hh, hh2, fX5_reckon_55, hv, lN_i, e1]
  rfl
theorem k_un {v : Int64} (h1 : ¬ j < 0) (h2 : ¬ e ≤ j) (h3 : ¬ L ≤ j) (hj : j < 1500) (he : e < 2147483648) (hL : L ≤ 1500) (hl : zI σ 326 P 0 0 = nI L) {c : Int32} (hc : c = 158 ∨ c = 160 ∨ c = 159) (ho : zI σ 1348 P 0 j = c) (hh : 1 ≤ h) (hh2 : ¬ h ≤ 0) (hh3 : h - 1 < 60) (hu : fX5_unary c (zJ σ 1351 P 0 (h - 1)) σ = some (v, σ)) :
    fX5_reckon_6 P x1 (nI e) p3 s3 (n + 1) (nI h) (nI j) σ = fX5_reckon_6 P x1 (nI e) p3 s3 n (nI h) (nI (j + 1)) (sJ σ 1351 P 0 (h - 1) v) := by
  rw [fX5_reckon_6]
  rcases hc with rfl | rfl | rfl
  · simp (disch := omega) only [i_0, i_1, i_2, i_60, n_lt, n_le, n_gi, n_cl, n_add, n_p1, n_sub, hl, h1, h2, h3, hj, ↓reduceIte, lt_k, bq_s, ho, hh2, hh3, fX5_reckon_146, hu]
    rfl
  · simp (disch := omega) only [i_0, i_1, i_2, i_60, n_lt, n_le, n_gi, n_cl, n_add, n_p1, n_sub, hl, h1, h2, h3, hj, ↓reduceIte, lt_k, bq_s, ho, hh2, hh3, fX5_reckon_146, hu]
    rfl
  · simp (disch := omega) only [i_0, i_1, i_2, i_60, n_lt, n_le, n_gi, n_cl, n_add, n_p1, n_sub, hl, h1, h2, h3, hj, ↓reduceIte, lt_k, bq_s, ho, hh2, hh3, fX5_reckon_146, hu]
    rfl
theorem k_bi {v : Int64} (h1 : ¬ j < 0) (h2 : ¬ e ≤ j) (h3 : ¬ L ≤ j) (hj : j < 1500) (he : e < 2147483648) (hL : L ≤ 1500) (hl : zI σ 326 P 0 0 = nI L) {c b : Int32} (hc : opF opT c = some b) (ho : zI σ 1348 P 0 j = c) (hh : 2 ≤ h) (hh2 : ¬ h ≤ 1) (hh3 : h - 1 < 60) (hh4 : h - 1 - 1 < 60) (hu : fX5_binary c (zJ σ 1351 P 0 (h - 1 - 1)) (zJ σ 1351 P 0 (h - 1)) σ = some (v, σ)) :
    fX5_reckon_6 P x1 (nI e) p3 s3 (n + 1) (nI h) (nI j) σ = fX5_reckon_6 P x1 (nI e) p3 s3 n (nI (h - 1)) (nI (j + 1)) (sJ σ 1351 P 0 (h - 1 - 1) v) := by
  rw [fX5_reckon_6]
  have g : c ≠ 3 ∧ c ≠ 2 ∧ c ≠ 155 ∧ c ≠ 160 ∧ c ≠ 158 ∧ c ≠ 159 := by
    rcases opF_c hc with ⟨rfl, _⟩ | ⟨rfl, _⟩ | ⟨rfl, _⟩ | ⟨rfl, _⟩ | ⟨rfl, _⟩ | ⟨rfl, _⟩ | ⟨rfl, _⟩ | ⟨rfl, _⟩ | ⟨rfl, _⟩ | ⟨rfl, _⟩ | ⟨rfl, _⟩ | ⟨rfl, _⟩ | ⟨rfl, _⟩ | ⟨rfl, _⟩ | ⟨rfl, _⟩ <;> decide
  obtain ⟨g1, g2, g3, g4, g5, g6⟩ := g
  rw [← ho] at hu g1 g2 g3 g4 g5 g6
  rw [i_3] at g1
  rw [i_2] at g2
  simp (disch := omega) only [i_0, i_1, i_2, i_3, i_60, n_lt, n_le, n_gi, n_cl, n_add, n_p1, n_sub, hl, h1, h2, h3, hj, ↓reduceIte, lt_k, bq_s, g1, g2, g3, g4, g5, g6, hh2, hh3, hh4, hu]
theorem k_end (hh : zI σ 326 P 0 0 = nI L) (he : e < 2147483648) : fX5_reckon_6 P x1 (nI e) p3 s3 (n + 1) (nI 1) (nI e) σ = some (zJ σ 1351 P 0 0, σ) := by
  rw [fX5_reckon_6]
  have h4 : ¬ e < 0 := by omega
  have h5 : ¬ (1 : Nat) ≤ 0 := by omega
  have h6 : (0 : Nat) < 60 := by omega
  simp (disch := omega) only [i_0, i_1, i_60, n_lt, n_le, n_gi, n_cl, n_add, h4, h5, h6, Nat.le_refl, ↓reduceIte]
end TKb
def wRow (z : Zs) (p s : Nat) (t w : Int32) (f : Nat → Int64) : Zs := (fun c' p' s' i' => if c' = 384 ∧ p' = p ∧ s' = s ∧ i' = 0 then t else if c' = 385 ∧ p' = p ∧ s' = s ∧ i' = 0 then w else zI z c' p' s' i', fun c' p' s' i' => if c' = 1410 ∧ p' = p ∧ s' = s then f i' else zJ z c' p' s' i', zR z)
theorem zI_wRow (z : Zs) (p s : Nat) (t w : Int32) (f : Nat → Int64) (c' p' s' i' : Nat) : zI (wRow z p s t w f) c' p' s' i' = if c' = 384 ∧ p' = p ∧ s' = s ∧ i' = 0 then t else if c' = 385 ∧ p' = p ∧ s' = s ∧ i' = 0 then w else zI z c' p' s' i' := rfl
theorem zJ_wRow (z : Zs) (p s : Nat) (t w : Int32) (f : Nat → Int64) (c' p' s' i' : Nat) : zJ (wRow z p s t w f) c' p' s' i' = if c' = 1410 ∧ p' = p ∧ s' = s then f i' else zJ z c' p' s' i' := rfl
theorem zR_wRow (z : Zs) (p s : Nat) (t w : Int32) (f : Nat → Int64) : zR (wRow z p s t w f) = zR z := rfl
theorem wRow_w (z : Zs) (p s : Nat) (t w t2 w2 : Int32) (f f2 : Nat → Int64) : wRow (wRow z p s t w f) p s t2 w2 f2 = wRow z p s t2 w2 f2 := by
  refine zs_ext (fun c' p' s' i' => ?_) (fun c' p' s' i' => ?_) (fun _ _ _ _ => rfl)
  · simp only [zI_wRow]
    split
    · rfl
    · split <;> rfl
  · simp only [zJ_wRow]
    split <;> rfl
theorem sI_c {z : Zs} {c e q s i q2 s2 i2 : Nat} {v : Int32} (h : ¬ e = c) : zI (sI z c q s i v) e q2 s2 i2 = zI z e q2 s2 i2 := by rw [zI_sI, if_neg (fun q => h q.1)]
theorem sJ_c {z : Zs} {c e q s i q2 s2 i2 : Nat} {v : Int64} (h : ¬ e = c) : zJ (sJ z c q s i v) e q2 s2 i2 = zJ z e q2 s2 i2 := by rw [zJ_sJ, if_neg (fun q => h q.1)]
/-! LEAVES: rows and tables of the class in closed form -/
theorem wRow_of {σ z : Zs} {p s : Nat} {t w : Int32} {f : Nat → Int64} (h1 : ∀ c p' s' i, zI z c p' s' i = if c = 384 ∧ p' = p ∧ s' = s ∧ i = 0 then t else if c = 385 ∧ p' = p ∧ s' = s ∧ i = 0 then w else zI σ c p' s' i) (h2 : ∀ c p' s' i, zJ z c p' s' i = if c = 1410 ∧ p' = p ∧ s' = s then f i else zJ σ c p' s' i) (h3 : ∀ c p' s' i, zR z c p' s' i = zR σ c p' s' i) : z = wRow σ p s t w f := zs_ext h1 h2 h3
theorem row_start {p s : Nat} {x : Int32} {σ : Zs} : fX6_startAt p s x σ = some ((), wRow σ p s x (nI 0) (zJ σ 1410 p s)) := by
  unfold fX6_startAt
  simp only [lt_k]
  refine congrArg (fun z => some ((), z)) (wRow_of (fun c p' s' i => ?_) (fun c p' s' i => ?_) (fun _ _ _ _ => rfl))
  · rw [zI_sI, zI_sI]
    by_cases h : c = 385 ∧ p' = p ∧ s' = s ∧ i = 0
    · rw [if_pos h, if_neg (by omega), if_pos h]; rfl
    · rw [if_neg h, if_neg h]
  · show zJ σ c p' s' i = _
    split
    · rename_i h; obtain ⟨rfl, rfl, rfl⟩ := h; rfl
    · rfl
theorem row_app {p s w : Nat} {x : Int64} {σ : Zs} (hw : zI σ 385 p s 0 = nI w) (h6 : w < 6) : fX6_append p s x σ = some ((), wRow σ p s (zI σ 384 p s 0) (nI (w + 1)) (fun j => if j = w then x else zJ σ 1410 p s j)) := by
  unfold fX6_append
  have a1 : ¬ 6 ≤ w := by omega
  have a2 : ¬ w < 0 := by omega
  simp (disch := omega) only [hw, i_0, i_6, n_lt, n_le, n_gi, n_cl, a1, a2, h6, ↓reduceIte, lt_k]
  refine congrArg (fun z => some ((), z)) (wRow_of (fun c p' s' i => ?_) (fun c p' s' i => ?_) (fun _ _ _ _ => rfl))
  · simp only [zI_sI, zI_sJ, hw, nI_succ]; grind
  · simp only [zJ_sI, zJ_sJ]; grind
theorem row_num {p s j : Nat} {σ : Zs} (h : j < 6) : fX6_numberAt p s (nI j) σ = some (zJ σ 1410 p s j, σ) := by
  unfold fX6_numberAt
  have a1 : ¬ 6 ≤ j := by omega
  have a2 : ¬ j < 0 := by omega
  simp (disch := omega) only [i_0, i_6, n_lt, n_le, n_gi, n_cl, a1, a2, h, ↓reduceIte]
theorem row_cp {p s p1 s1 : Nat} (hne : ¬ (p1 = p ∧ s1 = s)) : ∀ (k y n : Nat) (σ : Zs), y + k = 6 → k < n → fX6_copyFrom_18 p s p1 s1 n (nI y) σ = some ((), jJ σ 1410 p s (fun j => if y ≤ j ∧ j < 6 then zJ σ 1410 p1 s1 j else zJ σ 1410 p s j)) := by
  intro k
  induction k with
  | zero =>
    intro y n σ h1 h2
    obtain ⟨n, rfl⟩ : ∃ m, n = m + 1 := ⟨n - 1, by omega⟩
    have e : y = 6 := by omega
    subst e
    rw [fX6_copyFrom_18]
    have a : (6 : Nat) ≤ 6 := Nat.le_refl _
    simp (disch := omega) only [i_6, n_le, a, ↓reduceIte]
    rw [show (fun j => if 6 ≤ j ∧ j < 6 then zJ σ 1410 p1 s1 j else zJ σ 1410 p s j) = zJ σ 1410 p s from funext fun j => if_neg (by omega), jJ_self]
  | succ k ih =>
    intro y n σ h1 h2
    obtain ⟨n, rfl⟩ : ∃ m, n = m + 1 := ⟨n - 1, by omega⟩
    rw [fX6_copyFrom_18]
    have a1 : ¬ 6 ≤ y := by omega
    have a2 : y < 6 := by omega
    simp (disch := omega) only [i_6, i_1, n_le, n_gi, n_cl, n_add, a1, a2, ↓reduceIte, lt_k]
    rw [ih (y + 1) n _ (by omega) (by omega), jJ_sJ]
    refine congrArg (fun f => some ((), jJ σ 1410 p s f)) (funext fun j => ?_)
    have e : ∀ j, zJ (sJ σ 1410 p s y (zJ σ 1410 p1 s1 y)) 1410 p1 s1 j = zJ σ 1410 p1 s1 j := fun j => by
      rw [zJ_sJ, if_neg (fun q => hne ⟨q.2.1, q.2.2.1⟩)]
    rw [e, zJ_sJ]
    by_cases h : y + 1 ≤ j ∧ j < 6
    · rw [if_pos h, if_pos (by omega)]
    · rw [if_neg h]
      by_cases h3 : j = y
      · subst h3; rw [if_pos ⟨rfl, rfl, rfl, rfl⟩, if_pos (by omega)]
      · rw [if_neg (fun q => h3 q.2.2.2), if_neg (by omega)]
theorem row_copy {p s p1 s1 : Nat} {σ : Zs} (hne : ¬ (p1 = p ∧ s1 = s)) : fX6_copyFrom p s p1 s1 σ = some ((), wRow σ p s (zI σ 384 p1 s1 0) (zI σ 385 p1 s1 0) (fun j => if j < 6 then zJ σ 1410 p1 s1 j else zJ σ 1410 p s j)) := by
  unfold fX6_copyFrom
  simp only [lt_k]
  rw [i_0, row_cp hne 6 0 FU _ (by omega) (by unfold FU; omega)]
  refine congrArg (fun z => some ((), z)) (wRow_of (fun c p' s' i => ?_) (fun c p' s' i => ?_) (fun _ _ _ _ => rfl))
  · simp only [zI_jJ, zI_sI]; grind
  · simp only [zJ_jJ, zJ_sI]; grind
/-- a table with one row more -/
def addT (σ : Zs) (P s r p1 s1 : Nat) : Zs := sI (jJ (sI σ 1538 P s r (zI σ 384 p1 s1 0)) 1539 P s (fun j => if r * 6 ≤ j ∧ j < r * 6 + 6 then zJ σ 1410 p1 s1 (j - r * 6) else zJ σ 1539 P s j)) 512 P s 0 (nI (r + 1))
theorem tab_add_l {P s r p1 s1 : Nat} (hr : r < 200) : ∀ (k y n : Nat) (σ : Zs), y + k = 6 → k < n → zI σ 512 P s 0 = nI r → fX8_add_29 P s p1 s1 n (nI y) σ = some (1, sI (jJ σ 1539 P s (fun j => if r * 6 + y ≤ j ∧ j < r * 6 + 6 then zJ σ 1410 p1 s1 (j - r * 6) else zJ σ 1539 P s j)) 512 P s 0 (nI (r + 1))) := by
  intro k
  induction k with
  | zero =>
    intro y n σ h1 h2 h3
    obtain ⟨n, rfl⟩ : ∃ m, n = m + 1 := ⟨n - 1, by omega⟩
    have e : y = 6 := by omega
    subst e
    rw [fX8_add_29]
    have a : (6 : Nat) ≤ 6 := Nat.le_refl _
    simp (disch := omega) only [i_6, n_le, a, ↓reduceIte, lt_k, h3]
    rw [show (fun j => if r * 6 + 6 ≤ j ∧ j < r * 6 + 6 then zJ σ 1410 p1 s1 (j - r * 6) else zJ σ 1539 P s j) = zJ σ 1539 P s from funext fun j => if_neg (by omega), jJ_self, nI_succ]
  | succ k ih =>
    intro y n σ h1 h2 h3
    obtain ⟨n, rfl⟩ : ∃ m, n = m + 1 := ⟨n - 1, by omega⟩
    rw [fX8_add_29]
    have a1 : ¬ 6 ≤ y := by omega
    have a2 : y < 6 := by omega
    have a3 : r * 6 + y < 1200 := by omega
    simp (disch := omega) only [h3, i_6, n_le, n_gi, n_cl, n_mul, n_add, a1, a2, a3, ↓reduceIte, lt_k]
    rw [show (1 : Int32) = nI 1 from rfl, n_add]
    refine (ih (y + 1) n _ (by omega) (by omega) (by exact h3)).trans ?_
    rw [jJ_sJ]
    refine congrArg (fun f => some (1, sI (jJ σ 1539 P s f) 512 P s 0 (nI (r + 1)))) (funext fun j => ?_)
    have e : ∀ j, zJ (sJ σ 1539 P s (r * 6 + y) (zJ σ 1410 p1 s1 y)) 1410 p1 s1 j = zJ σ 1410 p1 s1 j := fun j => rfl
    rw [e, zJ_sJ]
    by_cases h : r * 6 + (y + 1) ≤ j ∧ j < r * 6 + 6
    · rw [if_pos h, if_pos (by omega)]
    · rw [if_neg h]
      by_cases h3 : j = r * 6 + y
      · subst h3
        rw [if_pos ⟨rfl, rfl, rfl, rfl⟩, if_pos (by omega), Nat.add_sub_cancel_left]
      · rw [if_neg (fun q => h3 q.2.2.2), if_neg (by omega)]
theorem tab_add {P s r p1 s1 : Nat} {σ : Zs} (hr : r < 200) (h : zI σ 512 P s 0 = nI r) : fX8_add P s p1 s1 σ = some (1, addT σ P s r p1 s1) := by
  unfold fX8_add
  have a1 : r < 200 := hr
  simp (disch := omega) only [h, i_200, i_0, n_lt, n_gi, n_cl, a1, ↓reduceIte, lt_k]
  exact tab_add_l hr 6 0 FU _ (by omega) (by unfold FU; omega) h
theorem tab_full {P s p1 s1 : Nat} {σ : Zs} (h : zI σ 512 P s 0 = nI 200) : fX8_add P s p1 s1 σ = some (0, σ) := by
  unfold fX8_add
  have a1 : ¬ (200 : Nat) < 200 := by omega
  simp (disch := omega) only [h, i_200, n_lt, a1, ↓reduceIte]
theorem tab_time {P s r i : Nat} {σ : Zs} (h : zI σ 512 P s 0 = nI r) (hr : r ≤ 200) (hi : i < r) : fX8_timeOf P s (nI i) σ = some (zI σ 1538 P s i, σ) := by
  unfold fX8_timeOf
  have a1 : ¬ i < 0 := by omega
  have a2 : ¬ r ≤ i := by omega
  have a3 : i < 200 := by omega
  simp (disch := omega) only [h, i_0, n_lt, n_le, n_gi, n_cl, a1, a2, a3, ↓reduceIte]
theorem tab_num {P s r w i c : Nat} {σ : Zs} (h : zI σ 512 P s 0 = nI r) (h2 : zI σ 513 P s 0 = nI w) (hr : r ≤ 200) (hi : i < r) (hw : w ≤ 6) (hc : c < w) : fX8_numberOf P s (nI i) (nI c) σ = some (zJ σ 1539 P s (i * 6 + c), σ) := by
  unfold fX8_numberOf
  have a1 : ¬ i < 0 := by omega
  have a2 : ¬ r ≤ i := by omega
  have a3 : ¬ c < 0 := by omega
  have a4 : ¬ w ≤ c := by omega
  have a5 : c < 6 := by omega
  have a6 : i * 6 + c < 1200 := by omega
  simp (disch := omega) only [h, h2, i_0, i_6, n_lt, n_le, n_gi, n_cl, n_mul, n_add, a1, a2, a3, a4, a5, a6, ↓reduceIte]
theorem tab_cp {P s r w i p2 s2 : Nat} (hr : r ≤ 200) (hi : i < r) (hw : w ≤ 6) : ∀ (k y n : Nat) (σ : Zs), y + k = w → k < n → zI σ 512 P s 0 = nI r → zI σ 513 P s 0 = nI w → zI σ 385 p2 s2 0 = nI y → fX8_copyTo_11 P s (nI i) p2 s2 n (nI y) σ = some ((), wRow σ p2 s2 (zI σ 384 p2 s2 0) (nI w) (fun j => if y ≤ j ∧ j < w then zJ σ 1539 P s (i * 6 + j) else zJ σ 1410 p2 s2 j)) := by
  intro k
  induction k with
  | zero =>
    intro y n σ h1 h2 h3 h4 h5
    obtain ⟨n, rfl⟩ : ∃ m, n = m + 1 := ⟨n - 1, by omega⟩
    have e : y = w := by omega
    subst e
    rw [fX8_copyTo_11]
    have a : y ≤ y := Nat.le_refl _
    simp (disch := omega) only [h4, n_le, a, ↓reduceIte]
    refine congrArg (fun z => some ((), z)) (wRow_of (fun c p' s' i => ?_) (fun c p' s' i => ?_) (fun _ _ _ _ => rfl))
    · split
      · rename_i q; obtain ⟨rfl, rfl, rfl, rfl⟩ := q; rfl
      · split
        · rename_i q; obtain ⟨rfl, rfl, rfl, rfl⟩ := q; exact h5
        · rfl
    · split
      · rename_i q; obtain ⟨rfl, rfl, rfl⟩ := q
        rw [if_neg (by omega)]
      · rfl
  | succ k ih =>
    intro y n σ h1 h2 h3 h4 h5
    obtain ⟨n, rfl⟩ : ∃ m, n = m + 1 := ⟨n - 1, by omega⟩
    rw [fX8_copyTo_11]
    have a1 : ¬ w ≤ y := by omega
    simp (disch := omega) only [h4, n_le, a1, ↓reduceIte]
    rw [bq_e (tab_num h3 h4 hr hi hw (by omega)), bq_e (row_app h5 (by omega)), i_1, n_add]
    refine (ih (y + 1) n _ (by omega) (by omega) (by exact h3) (by exact h4) ?_).trans ?_
    · rw [zI_wRow, if_neg (by omega), if_pos ⟨rfl, rfl, rfl, rfl⟩]
    rw [wRow_w]
    have e1 : zI (wRow σ p2 s2 (zI σ 384 p2 s2 0) (nI (y + 1)) fun j => if j = y then zJ σ 1539 P s (i * 6 + y) else zJ σ 1410 p2 s2 j) 384 p2 s2 0 = zI σ 384 p2 s2 0 := by rw [zI_wRow, if_pos ⟨rfl, rfl, rfl, rfl⟩]
    rw [e1]
    refine congrArg (fun f => some ((), wRow σ p2 s2 (zI σ 384 p2 s2 0) (nI w) f)) (funext fun j => ?_)
    simp only [zJ_wRow]
    grind
theorem tab_copy {P s r w i p2 s2 : Nat} {σ : Zs} (hr : r ≤ 200) (hi : i < r) (hw : w ≤ 6) (h3 : zI σ 512 P s 0 = nI r) (h4 : zI σ 513 P s 0 = nI w) : fX8_copyTo P s (nI i) p2 s2 σ = some ((), wRow σ p2 s2 (zI σ 1538 P s i) (nI w) (fun j => if j < w then zJ σ 1539 P s (i * 6 + j) else zJ σ 1410 p2 s2 j)) := by
  unfold fX8_copyTo
  rw [bq_e (tab_time h3 hr hi), bq_e row_start, i_0]
  refine (tab_cp hr hi hw w 0 FU _ (by omega) (by unfold FU; omega) (by exact h3) (by exact h4) ?_).trans ?_
  · rw [zI_wRow, if_neg (by omega), if_pos ⟨rfl, rfl, rfl, rfl⟩]
  rw [wRow_w]
  have e1 : zI (wRow σ p2 s2 (zI σ 1538 P s i) (nI 0) (zJ σ 1410 p2 s2)) 384 p2 s2 0 = zI σ 1538 P s i := by rw [zI_wRow, if_pos ⟨rfl, rfl, rfl, rfl⟩]
  rw [e1]
  refine congrArg (fun f => some ((), wRow σ p2 s2 (zI σ 1538 P s i) (nI w) f)) (funext fun j => ?_)
  simp only [zJ_wRow]
  grind

section TKc
variable {P p3 s3 L e s w y : Nat} {x1 : Int32} {σ ρ : Zs} {n m h j t q : Nat}
theorem lN_ne0 {n : Nat} (h : 0 < n) (h2 : n < 2147483648) : ¬ lN n = 0 := fun q => by
  have : lN n = lN 0 := q
  rw [lN_eq h2 (by decide)] at this
  omega
theorem lN_inj {a b : Nat} (ha : a < 2 ^ 63) (hb : b < 2 ^ 63) (h : lN a = lN b) : a = b := by
  have e : (lN a).toInt = (lN b).toInt := by rw [h]
  unfold lN at e
  rw [lg_ofNat_toInt ha, lg_ofNat_toInt hb] at e
  omega
end TKc
section TKd
variable {P p3 s3 L e s w y : Nat} {x1 : Int32} {σ ρ : Zs} {n m h j t q : Nat}
def holdC (σ : Zs) (q p3 s3 : Nat) (s x : Int32) (h : Nat) : Zs := sI (sI (sI (wRow σ 4 q (zI σ 384 p3 s3 0) (zI σ 385 p3 s3 0) (fun j => if j < 6 then zJ σ 1410 p3 s3 j else zJ σ 1410 4 q j)) 387 4 q 0 s) 388 4 q 0 x) 66 0 0 0 (nI (h + 1))
theorem hold_C {σ : Zs} {q p3 s3 h : Nat} {s x : Int32} (h60 : h < 60) (hh : zI σ 66 0 0 0 = nI h) (hq : zR σ 1089 0 0 h = (4, q)) (hne : ¬ p3 = 4) : fX1_hold s x p3 s3 σ = some ((), holdC σ q p3 s3 s x h) := by
  unfold fX1_hold
  have b1 : h < 60 := h60
  simp (disch := omega) only [i_60, i_1, n_lt, n_gi, n_cl, n_add, hh, hq, b1, ↓reduceIte]
  rw [bq_e (row_copy (fun q => hne q.1))]
  simp (disch := omega) only [zI_wRow, zR_wRow, zI_sI, zR_sI, hh, hq, n_gi, n_cl, n_add, b1, ↓reduceIte, lt_k]
  have e1 : ¬ (66 = 388) := by decide
  have e2 : ¬ (66 = 387) := by decide
  have e3 : ¬ (66 = 384) := by decide
  have e4 : ¬ (66 = 385) := by decide
  simp (disch := omega) only [e1, e2, e3, e4, false_and, hh, n_gi, n_cl, n_add, b1, ↓reduceIte, lt_k, zR_sI, zR_wRow, hq, zI_sI, zI_wRow]
  rfl
end TKd
section TKe
variable {P p3 s3 L e s w y : Nat} {x1 : Int32} {σ ρ : Zs} {n m h j t q : Nat}
def tot (p z : Nat) (b v : Int64) : Int64 := if p = 23 then lN z else if z = 1 then v else if p = 22 then b + v else if p = 24 then (if v < b then v else b) else if p = 25 then (if v < b then b else v) else v
theorem l_max {b v : Int64} : (if lg_cmp v b ≤ 0 then b else v) = (if v < b then b else v) := by
  by_cases q : v < b
  · rw [if_pos q, if_pos (l_cmple.mpr (l_nlt.mp fun q2 => absurd (Int64.lt_trans q q2) Int64.lt_irrefl))]
  · rw [if_neg q]
    by_cases e : v = b
    · subst e; split <;> rfl
    · rw [if_neg]
      intro q2
      have q3 := l_cmple.mp q2
      have q4 := l_nlt.mp q
      rw [Int64.le_iff_toInt_le] at q3 q4
      exact e (Int64.toInt_inj.mp (by omega))
theorem l_min {b v : Int64} : (if 0 ≤ lg_cmp v b then b else v) = (if v < b then v else b) := by
  by_cases q : v < b
  · rw [if_pos q, if_neg (fun q2 => absurd q (l_nlt.mpr (l_cmpge.mp q2)))]
  · rw [if_neg q, if_pos (l_cmpge.mpr (l_nlt.mp q))]
theorem add_C {k z p : Nat} {v : Int64} (hw : w < k) (hk : k ≤ 60) (h640 : zI σ 640 P s 0 = nI k) (hz : zI σ 1668 P s w = nI z) (hz2 : z < 2147483648) (hy : 2 ≤ y) (hy6 : y < 6) (hp : 22 ≤ p) (hp2 : p ≤ 26) : fX10_addTo P s (nI w) (nI (y - 2)) (nI (128 + p)) v σ = some ((), sJ σ 1669 P s (w * 4 + (y - 2)) (tot p z (zJ σ 1669 P s (w * 4 + (y - 2))) v)) := by
  unfold fX10_addTo
  have a1 : ¬ w < 0 := by omega
  have a2 : ¬ k ≤ w := by omega
  have a3 : ¬ y - 2 < 0 := by omega
  have a4 : y - 2 < 4 := by omega
  have a5 : w * 4 + (y - 2) < 240 := by omega
  have a6 : w < 60 := by omega
  simp (disch := omega) only [i_0, i_1, i_4, h640, hz, n_lt, n_le, n_eq, n_mul, n_add, n_gi, n_cl, a1, a2, a3, a4, a5, a6, ↓reduceIte]
  have m1 : ¬ nI 1 = (0 : Int32) := by decide
  have m2 : nI 0 = (0 : Int32) := rfl
  have hp3 : p = 22 ∨ p = 23 ∨ p = 24 ∨ p = 25 ∨ p = 26 := by omega
  rcases hp3 with rfl | rfl | rfl | rfl | rfl
  · have e1 : (nI (128 + 22) : Int32) = 150 := by decide
    by_cases q : z = 1
    · simp +decide (disch := omega) only [q, fX10_addTo_53, e1, m1, m2, n_gi, n_cl, a5, a6, ↓reduceIte, lt_k, tot]
    · simp +decide (disch := omega) only [q, fX10_addTo_53, e1, m1, m2, n_gi, n_cl, a5, a6, ↓reduceIte, lt_k, tot]
  · have e1 : ¬ (nI (128 + 23) : Int32) = 150 := by decide
    have e2 : (nI (128 + 23) : Int32) = 151 := by decide
    by_cases q : z = 1
    · simp +decide (disch := omega) only [q, fX10_addTo_53, e1, e2, m1, m2, n_gi, n_cl, a5, a6, ↓reduceIte, lt_k, tot, hz, n_i64]
    · simp +decide (disch := omega) only [q, fX10_addTo_53, e1, e2, m1, m2, n_gi, n_cl, a5, a6, ↓reduceIte, lt_k, tot, hz, n_i64]
  · have e1 : ¬ (nI (128 + 24) : Int32) = 150 := by decide
    have e2 : ¬ (nI (128 + 24) : Int32) = 151 := by decide
    have e3 : (nI (128 + 24) : Int32) = 152 := by decide
    by_cases q : z = 1
    · simp +decide (disch := omega) only [q, fX10_addTo_53, e1, e2, e3, m1, m2, n_gi, n_cl, a5, a6, ↓reduceIte, lt_k, tot]
    · simp +decide (disch := omega) only [q, fX10_addTo_53, e1, e2, e3, m1, m2, n_gi, n_cl, a5, a6, ↓reduceIte, lt_k, tot]
      rw [← l_min]
      split <;> rfl
  · have e1 : ¬ (nI (128 + 25) : Int32) = 150 := by decide
    have e2 : ¬ (nI (128 + 25) : Int32) = 151 := by decide
    have e3 : ¬ (nI (128 + 25) : Int32) = 152 := by decide
    have e4 : (nI (128 + 25) : Int32) = 153 := by decide
    by_cases q : z = 1
    · simp +decide (disch := omega) only [q, fX10_addTo_53, e1, e2, e3, e4, m1, m2, n_gi, n_cl, a5, a6, ↓reduceIte, lt_k, tot]
    · simp +decide (disch := omega) only [q, fX10_addTo_53, e1, e2, e3, e4, m1, m2, n_gi, n_cl, a5, a6, ↓reduceIte, lt_k, tot]
      rw [← l_max]
      split <;> rfl
  · have e1 : ¬ (nI (128 + 26) : Int32) = 150 := by decide
    have e2 : ¬ (nI (128 + 26) : Int32) = 151 := by decide
    have e3 : ¬ (nI (128 + 26) : Int32) = 152 := by decide
    have e4 : ¬ (nI (128 + 26) : Int32) = 153 := by decide
    by_cases q : z = 1
    · simp +decide (disch := omega) only [q, fX10_addTo_53, e1, e2, e3, e4, m1, m2, n_gi, n_cl, a5, a6, ↓reduceIte, lt_k, tot]
    · simp +decide (disch := omega) only [q, fX10_addTo_53, e1, e2, e3, e4, m1, m2, n_gi, n_cl, a5, a6, ↓reduceIte, lt_k, tot]
end TKe
section TKf
variable {P p3 s3 L e s w y : Nat} {x1 : Int32} {σ ρ : Zs} {n m h j t q : Nat}
theorem row_put {σ : Zs} {p s w : Nat} {t : Int32} {f : Nat → Int64} {x : Int64} (h6 : w < 6) : fX6_append p s x (wRow σ p s t (nI w) f) = some ((), wRow σ p s t (nI (w + 1)) (fun j => if j = w then x else f j)) := by
  have e1 : zI (wRow σ p s t (nI w) f) 385 p s 0 = nI w := by rw [zI_wRow, if_neg (by omega), if_pos ⟨rfl, rfl, rfl, rfl⟩]
  have e2 : zI (wRow σ p s t (nI w) f) 384 p s 0 = t := by rw [zI_wRow, if_pos ⟨rfl, rfl, rfl, rfl⟩]
  rw [row_app e1 h6, wRow_w, e2]
  refine congrArg (fun g => some ((), wRow σ p s t (nI (w + 1)) g)) (funext fun j => ?_)
  by_cases h : j = w
  · rw [if_pos h, if_pos h]
  · rw [if_neg h, if_neg h, zJ_wRow, if_pos ⟨rfl, rfl, rfl⟩]
theorem win_cp {P s w m : Nat} {x2 t : Int32} {σ : Zs} (hw : w < 60) (hm : m ≤ 4) : ∀ (k y n : Nat) (f : Nat → Int64), y + k = m → k < n → fX10_copyTo_52 P s (nI w) x2 (nI m) 2 0 n (nI y) (wRow σ 2 0 t (nI (2 + y)) f) = some ((), wRow σ 2 0 t (nI (2 + m)) (fun j => if 2 + y ≤ j ∧ j < 2 + m then zJ σ 1669 P s (w * 4 + (j - 2)) else f j)) := by
  intro k
  induction k with
  | zero =>
    intro y n f h1 h2
    obtain ⟨n, rfl⟩ : ∃ j, n = j + 1 := ⟨n - 1, by omega⟩
    have e : y = m := by omega
    subst e
    rw [fX10_copyTo_52]
    have b : y ≤ y := Nat.le_refl _
    simp (disch := omega) only [n_le, b, ↓reduceIte]
    refine congrArg (fun g => some ((), wRow σ 2 0 t (nI (2 + y)) g)) (funext fun j => ?_)
    rw [if_neg (by omega)]
  | succ k ih =>
    intro y n f h1 h2
    obtain ⟨n, rfl⟩ : ∃ j, n = j + 1 := ⟨n - 1, by omega⟩
    rw [fX10_copyTo_52]
    have b1 : ¬ m ≤ y := by omega
    have b2 : ¬ 4 ≤ y := by omega
    have b3 : w * 4 + y < 240 := by omega
    simp (disch := omega) only [i_4, i_1, n_le, n_gi, n_cl, n_mul, n_add, b1, b2, b3, ↓reduceIte]
    rw [bq_e (row_put (by omega)), show 2 + y + 1 = 2 + (y + 1) by omega]
    rw [ih (y + 1) n _ (by omega) (by omega)]
    refine congrArg (fun g => some ((), wRow σ 2 0 t (nI (2 + m)) g)) (funext fun j => ?_)
    have e3 : zJ (wRow σ 2 0 t (nI (2 + y)) f) 1669 P s (w * 4 + y) = zJ σ 1669 P s (w * 4 + y) := rfl
    rw [e3]
    by_cases c : j = 2 + y
    · subst c
      rw [if_neg (by omega), if_pos rfl, if_pos (by omega), show 2 + y - 2 = y by omega]
    · by_cases c2 : 2 + (y + 1) ≤ j ∧ j < 2 + m
      · rw [if_pos c2, if_pos (by omega)]
      · rw [if_neg c2, if_neg c, if_neg (by omega)]
def wnF (σ : Zs) (P s w W : Nat) (b : Nat) (j : Nat) : Int64 := if 2 ≤ j ∧ j < W then zJ σ 1669 P s (w * 4 + (j - 2)) else if j = 1 then lN b else if j = 0 then zJ σ 1665 P s w else zJ σ 1410 2 0 j
theorem win_copy {P s w k W b n : Nat} {σ : Zs} (h640 : zI σ 640 P s 0 = nI k) (hk : k ≤ 60) (hw : w < k) (hW : 2 ≤ W) (hW6 : W ≤ 6) (he : zI σ 1666 P s w = nI (b + n)) (hb : b + n < 2147483648) : fX10_copyTo P s (nI w) (nI n) (nI (W - 2)) 2 0 σ = some ((), wRow σ 2 0 (nI (b + n)) (nI W) (wnF σ P s w W b)) := by
  unfold fX10_copyTo
  have a1 : ¬ w < 0 := by omega
  have a2 : w < 60 := by omega
  simp (disch := omega) only [i_0, h640, n_lt, n_gi, n_cl, a1, a2, hw, ↓reduceIte]
  rw [bq_e row_start, he]
  have e0 : zJ (wRow σ 2 0 (nI (b + n)) (nI 0) (zJ σ 1410 2 0)) 1665 P s w = zJ σ 1665 P s w := rfl
  simp (disch := omega) only [e0]
  rw [bq_e (row_put (by omega))]
  have e1 : ∀ w' f, zI (wRow σ 2 0 (nI (b + n)) w' f) 1666 P s w = nI (b + n) := fun w' f => he
  simp (disch := omega) only [e1, n_sub, Nat.add_sub_cancel, n_i64]
  rw [bq_e (row_put (by omega))]
  have := win_cp (P := P) (s := s) (w := w) (m := W - 2) (x2 := nI n) (t := nI (b + n)) (σ := σ) a2 (by omega) (W - 2) 0 FU (fun j => if j = 0 + 1 then lN b else if j = 0 then zJ σ 1665 P s w else zJ σ 1410 2 0 j) (by omega) (by unfold FU; omega)
  refine this.trans ?_
  rw [show 2 + (W - 2) = W by omega]
  refine congrArg (fun g => some ((), wRow σ 2 0 (nI (b + n)) (nI W) g)) (funext fun j => ?_)
  unfold wnF
  rfl
end TKf
section TKg
variable {P p3 s3 L e s w y : Nat} {x1 : Int32} {σ ρ : Zs} {n m h j t q : Nat}
def moveC (σ : Zs) (P s y k : Nat) : Zs := jJ (sI (sI (sI (sJ σ 1665 P s k (zJ σ 1665 P s y)) 1666 P s k (zI σ 1666 P s y)) 1667 P s k (zI σ 1667 P s y)) 1668 P s k (zI σ 1668 P s y)) 1669 P s (fun j => if k * 4 ≤ j ∧ j < k * 4 + 4 then zJ σ 1669 P s (y * 4 + (j - k * 4)) else zJ σ 1669 P s j)
theorem mv_l {P s y k : Nat} (hy : y < 60) (hk : k ≤ y) : ∀ (r i n : Nat) (σ : Zs), i + r = 4 → r < n → fX10_move_50 P s (nI y) (nI k) n (nI i) σ = some ((), jJ σ 1669 P s (fun j => if k * 4 + i ≤ j ∧ j < k * 4 + 4 then zJ σ 1669 P s (y * 4 + (j - k * 4)) else zJ σ 1669 P s j)) := by
  intro r
  induction r with
  | zero =>
    intro i n σ h1 h2
    obtain ⟨n, rfl⟩ : ∃ j, n = j + 1 := ⟨n - 1, by omega⟩
    have e : i = 4 := by omega
    subst e
    rw [fX10_move_50]
    have b : (4 : Nat) ≤ 4 := Nat.le_refl _
    simp (disch := omega) only [i_4, n_le, b, ↓reduceIte]
    rw [show (fun j => if k * 4 + 4 ≤ j ∧ j < k * 4 + 4 then zJ σ 1669 P s (y * 4 + (j - k * 4)) else zJ σ 1669 P s j) = zJ σ 1669 P s from funext fun j => if_neg (by omega), jJ_self]
  | succ r ih =>
    intro i n σ h1 h2
    obtain ⟨n, rfl⟩ : ∃ j, n = j + 1 := ⟨n - 1, by omega⟩
    rw [fX10_move_50]
    have b1 : ¬ 4 ≤ i := by omega
    have b2 : y * 4 + i < 240 := by omega
    have b3 : k * 4 + i < 240 := by omega
    simp (disch := omega) only [i_4, i_1, n_le, n_gi, n_cl, n_mul, n_add, b1, b2, b3, ↓reduceIte, lt_k]
    rw [ih (i + 1) n _ (by omega) (by omega), jJ_sJ]
    refine congrArg (fun f => some ((), jJ σ 1669 P s f)) (funext fun j => ?_)
    simp only [zJ_sJ]
    by_cases c : k * 4 + (i + 1) ≤ j ∧ j < k * 4 + 4
    · rw [if_pos c, if_pos (show k * 4 + i ≤ j ∧ j < k * 4 + 4 by omega), if_neg (by omega)]
    · rw [if_neg c]
      by_cases c2 : j = k * 4 + i
      · subst c2
        rw [if_pos ⟨trivial, trivial, trivial, rfl⟩, if_pos (by omega), Nat.add_sub_cancel_left]
      · rw [if_neg (fun q => c2 q.2.2.2), if_neg (by omega)]
theorem mv_C {P s y k cl : Nat} {σ : Zs} (hy : y < 60) (hk : k ≤ y) (hc : zI σ 1667 P s y = nI cl) (hcl : cl ≤ 1) : fX10_move P s (nI y) (nI k) σ = some ((), moveC σ P s y k) := by
  unfold fX10_move
  have b1 : k < 60 := by omega
  have b2 : y < 60 := hy
  have c1 : cl = 0 ∨ cl = 1 := by omega
  have e1 : ∀ x, zI (sJ σ 1665 P s k x) 1666 P s y = zI σ 1666 P s y := fun _ => rfl
  have e2 : ∀ x v, zI (sI (sJ σ 1665 P s k x) 1666 P s k v) 1667 P s y = nI cl := fun _ _ => hc
  have e3 : ∀ x v u, zI (sI (sI (sJ σ 1665 P s k x) 1666 P s k v) 1667 P s k u) 1668 P s y = zI σ 1668 P s y := fun _ _ _ => rfl
  have c2 : nI cl = 0 ∨ nI cl = 1 := by
    rcases c1 with rfl | rfl
    · exact Or.inl rfl
    · exact Or.inr rfl
  simp (disch := omega) only [n_gi, n_cl, b1, b2, e1, e2, e3, c2, ↓reduceIte, lt_k]
  rw [show (0 : Int32) = nI 0 from rfl, mv_l hy hk 4 0 FU _ (by omega) (by unfold FU; omega)]
  unfold moveC
  rw [hc]
  rfl
end TKg
section TKh
variable {P p3 s3 L e s w y : Nat} {x1 : Int32} {σ ρ : Zs} {n m h j t q : Nat}
def drC (z : Zs) (P k : Nat) : Zs := (fun c p s i => if (c = 512 ∨ c = 640) ∧ i = 0 ∧ p = P ∧ s < k then 0 else if c = 513 ∧ i = 0 ∧ p = P ∧ s < k then zI z 450 P s 0 else if c = 461 ∧ i = 0 ∧ p = P ∧ s < k then -1 else if c = 1486 ∧ i < 2 ∧ p = P ∧ s < k then 0 else zI z c p s i, zJ z, zR z)
theorem zI_drC (z : Zs) (P k c p s i : Nat) : zI (drC z P k) c p s i = if (c = 512 ∨ c = 640) ∧ i = 0 ∧ p = P ∧ s < k then 0 else if c = 513 ∧ i = 0 ∧ p = P ∧ s < k then zI z 450 P s 0 else if c = 461 ∧ i = 0 ∧ p = P ∧ s < k then -1 else if c = 1486 ∧ i < 2 ∧ p = P ∧ s < k then 0 else zI z c p s i := rfl
theorem dr_C {P s : Nat} {σ : Zs} : fX7_dropRows P s (drC σ P s) = some ((), drC σ P (s + 1)) := by
  unfold fX7_dropRows fX8_clear fX10_clear
  have b0 : 0 < 2 := by decide
  have b1 : 1 < 2 := by decide
  simp (disch := omega) only [i_0, i_1, n_gi, n_cl, b0, b1, ↓reduceIte, lt_k, bq_s]
  refine congrArg (fun z => some ((), z)) (zs_ext (fun c p s i => ?_) (fun _ _ _ _ => rfl) (fun _ _ _ _ => rfl))
  simp only [zI_sI, zI_drC]
  have m0 : (nI 0 : Int32) = 0 := rfl
  have m1 : (-nI 1 : Int32) = -1 := rfl
  simp only [m0, m1]
  grind (splits := 40)
def ckC (z : Zs) (P k : Nat) : Zs := (fun c p s i => if c = 4 ∧ p = P ∧ s < k ∧ i = 0 then 0 else zI z c p s i, zJ z, zR z)
theorem zI_ckC (z : Zs) (P k c p s i : Nat) : zI (ckC z P k) c p s i = if c = 4 ∧ p = P ∧ s < k ∧ i = 0 then 0 else zI z c p s i := rfl
def enC (z : Zs) : Zs := sI (sI (sI (sI z 66 0 0 0 0) 67 0 0 0 0) 68 0 0 0 0) 69 0 0 0 0
theorem st_C2 {P p1 M : Nat} (hM : M ≤ 8) : ∀ (k y n : Nat) (σ : Zs), y + k = M → k < n → zR σ 64 0 0 0 = (P, 0) → zI σ 323 P 0 0 = nI M → fX1_start_38 p1 n (nI y) (ckC σ P y) = some ((), enC (ckC σ P M)) := by
  intro k
  induction k with
  | zero =>
    intro y n σ h1 h2 h3 h4
    obtain ⟨n, rfl⟩ : ∃ j, n = j + 1 := ⟨n - 1, by omega⟩
    have ey : y = M := by omega
    subst ey
    have e1 : zR (ckC σ P y) 64 0 0 0 = (P, 0) := h3
    have e2 : zI (ckC σ P y) 323 P 0 0 = nI y := h4
    have e3 : y ≤ y := Nat.le_refl _
    rw [fX1_start_38]
    simp (disch := omega) only [e1, e2, n_le, e3, ↓reduceIte, lt_k]
    rfl
  | succ k ih =>
    intro y n σ h1 h2 h3 h4
    obtain ⟨n, rfl⟩ : ∃ j, n = j + 1 := ⟨n - 1, by omega⟩
    have e1 : zR (ckC σ P y) 64 0 0 0 = (P, 0) := h3
    have e2 : zI (ckC σ P y) 323 P 0 0 = nI M := h4
    have e3 : ¬ M ≤ y := by omega
    have e4 : y < 8 := by omega
    rw [fX1_start_38]
    simp (disch := omega) only [e1, e2, i_1, n_add, n_le, n_gi, n_cl, e3, e4, ↓reduceIte, lt_k]
    have e5 : sI (ckC σ P y) 4 P y 0 0 = ckC σ P (y + 1) := by
      refine zs_ext (fun c p s i => ?_) (fun _ _ _ _ => rfl) (fun _ _ _ _ => rfl)
      simp only [zI_sI, zI_ckC]
      grind
    rw [e5]
    exact ih (y + 1) n σ (by omega) (by omega) h3 h4
theorem st_C1 {P p1 N M : Nat} (hN : N ≤ 12) (hM : M ≤ 8) : ∀ (k y n : Nat) (σ : Zs), y + k = N → k < n → zR σ 64 0 0 0 = (P, 0) → zI σ 321 P 0 0 = nI N → zI σ 323 P 0 0 = nI M → fX1_start_7 p1 n (nI y) (drC σ P y) = some ((), enC (ckC (drC σ P N) P M)) := by
  intro k
  induction k with
  | zero =>
    intro y n σ h1 h2 h3 h4 h5
    obtain ⟨n, rfl⟩ : ∃ j, n = j + 1 := ⟨n - 1, by omega⟩
    have ey : y = N := by omega
    subst ey
    have e1 : zR (drC σ P y) 64 0 0 0 = (P, 0) := h3
    have e2 : zI (drC σ P y) 321 P 0 0 = nI y := h4
    have e5 : zI (drC σ P y) 323 P 0 0 = nI M := h5
    have e3 : y ≤ y := Nat.le_refl _
    have ff : M < FU := by unfold FU; omega
    rw [fX1_start_7]
    simp (disch := omega) only [e1, e2, n_le, e3, ↓reduceIte]
    have e0 : ckC (drC σ P y) P 0 = drC σ P y := zs_ext (fun c p s i => by rw [zI_ckC, if_neg (by omega)]) (fun _ _ _ _ => rfl) (fun _ _ _ _ => rfl)
    have := st_C2 (p1 := p1) hM M 0 FU (drC σ P y) (by omega) ff e1 e5
    rw [e0] at this
    exact this
  | succ k ih =>
    intro y n σ h1 h2 h3 h4 h5
    obtain ⟨n, rfl⟩ : ∃ j, n = j + 1 := ⟨n - 1, by omega⟩
    have e1 : zR (drC σ P y) 64 0 0 0 = (P, 0) := h3
    have e2 : zI (drC σ P y) 321 P 0 0 = nI N := h4
    have e3 : ¬ N ≤ y := by omega
    have e4 : y < 12 := by omega
    rw [fX1_start_7]
    simp (disch := omega) only [e1, e2, i_1, n_add, n_le, n_gi, n_cl, e3, e4, ↓reduceIte]
    rw [bq_e dr_C]
    exact ih (y + 1) n σ (by omega) (by omega) h3 h4 h5
theorem st_C {P N M : Nat} {σ : Zs} (hN : N ≤ 12) (hM : M ≤ 8) (h4 : zI σ 321 P 0 0 = nI N) (h5 : zI σ 323 P 0 0 = nI M) : fX1_start P σ = some ((), enC (ckC (drC (sR σ 64 0 0 0 (P, 0)) P N) P M)) := by
  unfold fX1_start
  rw [lt_k]
  have e0 : drC (sR σ 64 0 0 0 (P, 0)) P 0 = sR σ 64 0 0 0 (P, 0) := zs_ext (fun c p s i => by rw [zI_drC, if_neg (by omega), if_neg (by omega), if_neg (by omega), if_neg (by omega)]) (fun _ _ _ _ => rfl) (fun _ _ _ _ => rfl)
  have ff : N < FU := by unfold FU; omega
  have := st_C1 (p1 := P) hN hM N 0 FU (sR σ 64 0 0 0 (P, 0)) (by omega) ff (by rw [zR_sR, if_pos ⟨rfl, rfl, rfl, rfl⟩]) h4 h5
  rw [e0] at this
  exact this
end TKh
section TKi
variable {P p3 s3 L e s w y : Nat} {x1 : Int32} {σ ρ : Zs} {n m h j t q : Nat}
def nix (f : Nat → Int64) (w : Int64) : Nat → Nat → Int32
  | 0, _ => -nI 1
  | k + 1, y => if f y = w then nI y else nix f w k (y + 1)
theorem nix_c {f g : Nat → Int64} {w : Int64} : ∀ (k y : Nat), (∀ s, y ≤ s → s < y + k → f s = g s) → nix f w k y = nix g w k y := by
  intro k
  induction k with
  | zero => intro y _; rfl
  | succ k ih =>
    intro y h
    unfold nix
    rw [h y (Nat.le_refl _) (by omega), ih (y + 1) (fun s h1 h2 => h s (by omega) (by omega))]
theorem nix_s {f : Nat → Int64} {w : Int64} : ∀ (k y : Nat), (nix f w k y = -nI 1 ∧ ∀ s, y ≤ s → s < y + k → f s ≠ w) ∨ ∃ s, y ≤ s ∧ s < y + k ∧ f s = w ∧ nix f w k y = nI s ∧ ∀ j, y ≤ j → j < s → f j ≠ w := by
  intro k
  induction k with
  | zero => intro y; exact Or.inl ⟨rfl, fun s h1 h2 => by omega⟩
  | succ k ih =>
    intro y
    unfold nix
    by_cases e : f y = w
    · rw [if_pos e]
      exact Or.inr ⟨y, Nat.le_refl _, by omega, e, rfl, fun j h1 h2 => by omega⟩
    · rw [if_neg e]
      rcases ih (y + 1) with ⟨h1, h2⟩ | ⟨s, h1, h2, h3, h4, h5⟩
      · refine Or.inl ⟨h1, fun s h3 h4 => ?_⟩
        by_cases q : s = y
        · rw [q]; exact e
        · exact h2 s (by omega) (by omega)
      · refine Or.inr ⟨s, by omega, by omega, h3, h4, fun j h6 h7 => ?_⟩
        by_cases q : j = y
        · rw [q]; exact e
        · exact h5 j (by omega) h7
theorem name_C {p N : Nat} {w : Int64} {σ : Zs} (hN : N ≤ 12) (h : zI σ 321 p 0 0 = nI N) : fX5_streamNamed p w σ = some (nix (fun s => zJ σ 448 p s 0) w N 0, σ) := by
  have l : ∀ (k y n : Nat), y + k = N → k < n → fX5_streamNamed_2 p w n (nI y) σ = some (nix (fun s => zJ σ 448 p s 0) w k y, σ) := by
    intro k
    induction k with
    | zero =>
      intro y n h1 h2
      obtain ⟨n, rfl⟩ : ∃ j, n = j + 1 := ⟨n - 1, by omega⟩
      have b : N ≤ y := by omega
      rw [fX5_streamNamed_2]
      simp (disch := omega) only [h, i_1, n_le, b, ↓reduceIte]
      rfl
    | succ k ih =>
      intro y n h1 h2
      obtain ⟨n, rfl⟩ : ∃ j, n = j + 1 := ⟨n - 1, by omega⟩
      have b1 : ¬ N ≤ y := by omega
      have b2 : ¬ 12 ≤ y := by omega
      have b3 : y < 12 := by omega
      rw [fX5_streamNamed_2]
      simp (disch := omega) only [h, i_1, i_12, n_add, n_le, n_gi, n_cl, b1, b2, b3, ↓reduceIte]
      unfold nix
      by_cases e : zJ σ 448 p y 0 = w
      · rw [if_pos (l_cmp0.mpr e), if_pos e]
      · rw [if_neg (fun z => e (l_cmp0.mp z)), if_neg e, ih (y + 1) n (by omega) (by omega)]
  unfold fX5_streamNamed
  rw [i_0]
  exact l N 0 FU (by omega) (by unfold FU; omega)
end TKi
section TKj
variable {P p3 s3 L e s w y : Nat} {x1 : Int32} {σ ρ : Zs} {n m h j t q : Nat}
theorem i32_c (x : Int32) : x < 0 ∨ ∃ a, a < 2147483648 ∧ x = nI a := by
  by_cases q : x < 0
  · exact Or.inl q
  · rw [Int32.lt_iff_toInt_lt] at q
    have h0 : (0 : Int32).toInt = 0 := rfl
    have h1 := x.toInt_lt
    refine Or.inr ⟨x.toInt.toNat, by omega, ?_⟩
    apply Int32.toInt_inj.mp
    rw [nI_toInt (by omega)]
    omega
theorem m1_lt {a : Nat} (h : a < 2147483648) : ¬ (nI a : Int32) < 0 := by rw [i_0, n_lt h (by omega)]; omega
theorem bq_as {α β γ : Type} {o : Option (α × Zs)} {k : α → Zs → Option (β × Zs)} {l : β → Zs → Option γ} : bq (bq o k) l = bq o fun v z => bq (k v z) l := by
  rcases o with _ | ⟨v, z⟩
  · rfl
  · rfl
theorem bq_id {α : Type} {o : Option (α × Zs)} : bq o (fun v z => some (v, z)) = o := by
  rcases o with _ | ⟨v, z⟩
  · rfl
  · rfl
theorem if10 {α : Type} {a b : α} : (if (1 : Int32) = 0 then a else b) = b := if_neg (by decide)
theorem if00 {α : Type} {a b : α} : (if (0 : Int32) = 0 then a else b) = a := if_pos rfl
end TKj
