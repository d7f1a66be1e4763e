/-! THE PURE PART: runs of lifted methods that end well (Wp1), pairs of them (Wp2), numbers -/
def Wp1 {α : Type} (o : Option (α × Zs)) (Q : α → Zs → Prop) : Prop := match o with
  | some (v, z) => Q v z
  | none => False
def Wp2 {α β : Type} (o : Option (α × Zs)) (r : Option (β × Zs)) (Q : α → Zs → β → Zs → Prop) : Prop := Wp1 o fun v z => Wp1 r fun w y => Q v z w y
section WP
variable {α β γ δ : Type} {o : Option (α × Zs)} {r : Option (β × Zs)} {z y : Zs} {v : α} {w : β}
theorem wp_s {Q : α → Zs → Prop} : Wp1 (some (v, z)) Q = Q v z := rfl
theorem wp_ex {Q : α → Zs → Prop} (h : Wp1 o Q) : ∃ v z, o = some (v, z) ∧ Q v z := by
  rcases o with _ | ⟨v, z⟩
  · exact h.elim
  · exact ⟨v, z, rfl, h⟩
theorem wp_of {Q : α → Zs → Prop} (e : o = some (v, z)) (h : Q v z) : Wp1 o Q := by subst e; exact h
theorem wp_m {Q R : α → Zs → Prop} (h : Wp1 o Q) (k : ∀ v z, Q v z → R v z) : Wp1 o R := by
  rcases o with _ | ⟨v, z⟩
  · exact h
  · exact k _ _ h
theorem wp_q {k : α → Zs → Option (γ × Zs)} {Q : γ → Zs → Prop} (h : Wp1 o fun v z => Wp1 (k v z) Q) : Wp1 (bq o k) Q := by
  rcases o with _ | ⟨v, z⟩
  · exact h
  · exact h
theorem bq_s {k : α → Zs → Option γ} : bq (some (v, z)) k = k v z := by rw [bq]
theorem bq_e {k : α → Zs → Option γ} (e : o = some (v, z)) : bq o k = k v z := by rw [e]; rfl
theorem lt_k {k : Zs → Option α} : lt z k = k z := by rw [lt]
theorem w2_s {Q : α → Zs → β → Zs → Prop} : Wp2 (some (v, z)) (some (w, y)) Q = Q v z w y := rfl
theorem w2_ex {Q : α → Zs → β → Zs → Prop} (h : Wp2 o r Q) : ∃ v z w y, o = some (v, z) ∧ r = some (w, y) ∧ Q v z w y := by
  obtain ⟨v, z, e, h⟩ := wp_ex h
  obtain ⟨w, y, e2, h⟩ := wp_ex h
  exact ⟨v, z, w, y, e, e2, h⟩
theorem w2_of {Q : α → Zs → β → Zs → Prop} (e : o = some (v, z)) (e2 : r = some (w, y)) (h : Q v z w y) : Wp2 o r Q := by subst e e2; exact h
theorem w2_m {Q R : α → Zs → β → Zs → Prop} (h : Wp2 o r Q) (k : ∀ v z w y, Q v z w y → R v z w y) : Wp2 o r R :=
  wp_m h fun _ _ h => wp_m h fun _ _ h => k _ _ _ _ h
/-- one step of the first run -/
theorem w2_l {k : α → Zs → Option (γ × Zs)} {Q : γ → Zs → β → Zs → Prop} (h : Wp1 o fun v z => Wp2 (k v z) r Q) : Wp2 (bq o k) r Q := wp_q h
/-- one step of the second run -/
theorem w2_r {k : β → Zs → Option (γ × Zs)} {Q : α → Zs → γ → Zs → Prop} (h : Wp1 r fun w y => Wp2 o (k w y) Q) : Wp2 o (bq r k) Q := by
  obtain ⟨w, y, e, h⟩ := wp_ex h
  subst e
  exact h
/-- a step of both -/
theorem w2_b {k : α → Zs → Option (γ × Zs)} {l : β → Zs → Option (δ × Zs)} {Q : γ → Zs → δ → Zs → Prop} (h : Wp2 o r fun v z w y => Wp2 (k v z) (l w y) Q) : Wp2 (bq o k) (bq r l) Q := by
  obtain ⟨v, z, w, y, e, e2, h⟩ := w2_ex h
  subst e e2
  exact h
theorem w2_le {k : α → Zs → Option (γ × Zs)} {Q : γ → Zs → β → Zs → Prop} (e : o = some (v, z)) (h : Wp2 (k v z) r Q) : Wp2 (bq o k) r Q := by subst e; exact h
theorem w2_re {k : β → Zs → Option (γ × Zs)} {Q : α → Zs → γ → Zs → Prop} (e : r = some (w, y)) (h : Wp2 o (k w y) Q) : Wp2 o (bq r k) Q := by subst e; exact h
theorem w2_tl {c : Prop} [Decidable c] {a b : Option (α × Zs)} {Q : α → Zs → β → Zs → Prop} (q : c) (h : Wp2 a r Q) : Wp2 (if c then a else b) r Q := by rw [if_pos q]; exact h
theorem w2_fl {c : Prop} [Decidable c] {a b : Option (α × Zs)} {Q : α → Zs → β → Zs → Prop} (q : ¬ c) (h : Wp2 b r Q) : Wp2 (if c then a else b) r Q := by rw [if_neg q]; exact h
theorem w2_tr {c : Prop} [Decidable c] {a b : Option (β × Zs)} {Q : α → Zs → β → Zs → Prop} (q : c) (h : Wp2 o a Q) : Wp2 o (if c then a else b) Q := by rw [if_pos q]; exact h
theorem w2_fr {c : Prop} [Decidable c] {a b : Option (β × Zs)} {Q : α → Zs → β → Zs → Prop} (q : ¬ c) (h : Wp2 o b Q) : Wp2 o (if c then a else b) Q := by rw [if_neg q]; exact h
theorem wp_t {c : Prop} [Decidable c] {a b : Option (α × Zs)} {Q : α → Zs → Prop} (q : c) (h : Wp1 a Q) : Wp1 (if c then a else b) Q := by rw [if_pos q]; exact h
theorem wp_f {c : Prop} [Decidable c] {a b : Option (α × Zs)} {Q : α → Zs → Prop} (q : ¬ c) (h : Wp1 b Q) : Wp1 (if c then a else b) Q := by rw [if_neg q]; exact h
theorem w2_kl {k : Zs → Option (α × Zs)} {Q : α → Zs → β → Zs → Prop} (h : ∀ y, y = z → Wp2 (k y) r Q) : Wp2 (lt z k) r Q := by rw [lt_k]; exact h z rfl
theorem w2_kr {k : Zs → Option (β × Zs)} {Q : α → Zs → β → Zs → Prop} (h : ∀ y, y = z → Wp2 o (k y) Q) : Wp2 o (lt z k) Q := by rw [lt_k]; exact h z rfl
theorem wp_k {k : Zs → Option (α × Zs)} {Q : α → Zs → Prop} (h : ∀ y, y = z → Wp1 (k y) Q) : Wp1 (lt z k) Q := by rw [lt_k]; exact h z rfl
end WP
/-! numbers -/
theorem n_lit (k : Nat) : (OfNat.ofNat k : Int32) = nI k := rfl
theorem n_l0 : (0 : Int32) = nI 0 := rfl
theorem n_l1 : (1 : Int32) = nI 1 := rfl
theorem n_cl {a : Nat} (h : a < 2147483648) : Int32.toNatClampNeg (nI a) = a := nI_clamp h
theorem n_gi {a n : Nat} (h : a < 2147483648) : gi (nI a) n ↔ a < n := by
  unfold gi
  rw [nI_clamp h]
  constructor
  · intro q; exact Nat.lt_of_not_le fun q2 => q (Or.inr q2)
  · intro q q2
    rcases q2 with q2 | q2
    · exact nI_pos h q2
    · omega
theorem n_le {a b : Nat} (h : a < 2147483648) (h2 : b < 2147483648) : nI a ≤ nI b ↔ a ≤ b := nI_leI h h2
theorem n_lt {a b : Nat} (h : a < 2147483648) (h2 : b < 2147483648) : nI a < nI b ↔ a < b := nI_ltI h h2
theorem n_eq {a b : Nat} (h : a < 2147483648) (h2 : b < 2147483648) : nI a = nI b ↔ a = b := nI_eq h h2
theorem n_m1i : (-nI 1 : Int32).toInt = -1 := rfl
theorem n_m1 {a : Nat} (h : a < 2147483648) : (nI a = -nI 1) ↔ False := by
  constructor
  · intro q
    have := congrArg Int32.toInt q
    rw [nI_toInt h, n_m1i] at this
    omega
  · exact False.elim
theorem n_m1' {a : Nat} (h : a < 2147483648) : (-nI 1 = nI a) ↔ False := by rw [eq_comm]; exact n_m1 h
theorem n_m1l {a : Nat} (h : a < 2147483648) : (nI a ≤ -nI 1) ↔ False := by
  rw [Int32.le_iff_toInt_le, nI_toInt h, n_m1i]
  exact ⟨fun q => by omega, False.elim⟩
theorem n_m1t {a : Nat} (h : a < 2147483648) : (-nI 1 < nI a) ↔ True := by
  rw [Int32.lt_iff_toInt_lt, nI_toInt h, n_m1i]
  exact ⟨fun _ => trivial, fun _ => by omega⟩
theorem n_m1g {a : Nat} (h : a < 2147483648) : (nI a < -nI 1) ↔ False := by
  rw [Int32.lt_iff_toInt_lt, nI_toInt h, n_m1i]
  exact ⟨fun q => by omega, False.elim⟩
theorem n_m1le {a : Nat} (h : a < 2147483648) : (-nI 1 ≤ nI a) ↔ True := by
  rw [Int32.le_iff_toInt_le, nI_toInt h, n_m1i]
  exact ⟨fun _ => trivial, fun _ => by omega⟩
theorem n_gim {n : Nat} : gi (-nI 1) n ↔ False := by
  constructor
  · intro q; exact q (Or.inl (by decide))
  · exact False.elim
theorem n_sub {a b : Nat} (h : b ≤ a) : nI a - nI b = nI (a - b) := pk_sub h
theorem n_mul (a b : Nat) : nI a * nI b = nI (a * b) := pk_mul a b
theorem n_add (a b : Nat) : nI a + nI b = nI (a + b) := nI_add a b
theorem n_p1 {a : Nat} (h : 1 ≤ a) : nI a + -nI 1 = nI (a - 1) := by
  obtain ⟨b, rfl⟩ : ∃ b, a = b + 1 := ⟨a - 1, by omega⟩
  exact pk_m1 b
theorem n_i64 {a : Nat} (h : a < 2147483648) : (nI a).toInt64 = lN a := nI_l h
theorem l_lit (k : Nat) : (OfNat.ofNat k : Int64) = lN k := rfl
theorem l_cmp0 {a b : Int64} : lg_cmp a b = 0 ↔ a = b := by
  unfold lg_cmp
  by_cases h : a > b
  · rw [if_pos h]
    constructor
    · intro q; exact absurd q (by decide)
    · intro q; subst q; exact absurd h (Int64.lt_irrefl)
  · rw [if_neg h]
    by_cases h2 : a = b
    · rw [if_pos h2]; exact ⟨fun _ => h2, fun _ => rfl⟩
    · rw [if_neg h2]
      constructor
      · intro q; exact absurd q (by decide)
      · intro q; exact absurd q h2
theorem l_cmplt {a b : Int64} : lg_cmp a b < 0 ↔ a < b := by
  unfold lg_cmp
  by_cases h : a > b
  · rw [if_pos h]
    constructor
    · intro q; exact absurd q (by decide)
    · intro q; exact absurd (Int64.lt_trans h q) Int64.lt_irrefl
  · rw [if_neg h]
    by_cases h2 : a = b
    · rw [if_pos h2]
      constructor
      · intro q; exact absurd q (by decide)
      · intro q; subst h2; exact absurd q Int64.lt_irrefl
    · rw [if_neg h2]
      constructor
      · intro _
        rw [Int64.lt_iff_toInt_lt]
        have h3 : ¬ b.toInt < a.toInt := fun q => h (Int64.lt_iff_toInt_lt.mpr q)
        have h4 : ¬ a.toInt = b.toInt := fun q => h2 (Int64.toInt_inj.mp q)
        omega
      · intro _; decide
theorem l_cmpgt {a b : Int64} : 0 < lg_cmp a b ↔ b < a := by
  unfold lg_cmp
  by_cases h : a > b
  · rw [if_pos h]; exact ⟨fun _ => h, fun _ => by decide⟩
  · rw [if_neg h]
    by_cases h2 : a = b
    · rw [if_pos h2]
      constructor
      · intro q; exact absurd q (by decide)
      · intro q; exact absurd q h
    · rw [if_neg h2]
      constructor
      · intro q; exact absurd q (by decide)
      · intro q; exact absurd q h
theorem l_nlt {a b : Int64} : ¬ a < b ↔ b ≤ a := by rw [Int64.lt_iff_toInt_lt, Int64.le_iff_toInt_le]; omega
theorem i_nlt {a b : Int32} : ¬ a < b ↔ b ≤ a := by rw [Int32.lt_iff_toInt_lt, Int32.le_iff_toInt_le]; omega
theorem i_nle {a b : Int32} : ¬ a ≤ b ↔ b < a := by rw [Int32.lt_iff_toInt_lt, Int32.le_iff_toInt_le]; omega
theorem l_cmpge {a b : Int64} : 0 ≤ lg_cmp a b ↔ b ≤ a := by rw [← i_nlt, l_cmplt, l_nlt]
theorem l_cmple {a b : Int64} : lg_cmp a b ≤ 0 ↔ a ≤ b := by
  rw [← l_nlt, ← l_cmpgt, i_nlt]
/-- a whole row written anew -/
def jJ (z : Zs) (c p s : Nat) (f : Nat → Int64) : Zs := (zI z, fun c' p' s' i' => if c' = c ∧ p' = p ∧ s' = s then f i' else zJ z c' p' s' i', zR z)
theorem zI_jJ (z : Zs) (c p s : Nat) (f : Nat → Int64) : zI (jJ z c p s f) = zI z := rfl
theorem zR_jJ (z : Zs) (c p s : Nat) (f : Nat → Int64) : zR (jJ z c p s f) = zR z := rfl
theorem zJ_jJ (z : Zs) (c p s c' p' s' i' : Nat) (f : Nat → Int64) : zJ (jJ z c p s f) c' p' s' i' = if c' = c ∧ p' = p ∧ s' = s then f i' else zJ z c' p' s' i' := rfl
theorem zs_ext {z y : Zs} (h1 : ∀ c p s i, zI z c p s i = zI y c p s i) (h2 : ∀ c p s i, zJ z c p s i = zJ y c p s i) (h3 : ∀ c p s i, zR z c p s i = zR y c p s i) : z = y := by
  obtain ⟨a, b, c⟩ := z
  obtain ⟨a2, b2, c2⟩ := y
  have e1 : a = a2 := by funext c p s i; exact h1 c p s i
  have e2 : b = b2 := by funext c p s i; exact h2 c p s i
  have e3 : c = c2 := by funext c p s i; exact h3 c p s i
  rw [e1, e2, e3]
theorem jJ_jJ (z : Zs) (c p s : Nat) (f g : Nat → Int64) : jJ (jJ z c p s f) c p s g = jJ z c p s g := by
  refine zs_ext (fun _ _ _ _ => rfl) (fun c' p' s' i' => ?_) (fun _ _ _ _ => rfl)
  rw [zJ_jJ, zJ_jJ, zJ_jJ]
  by_cases h : c' = c ∧ p' = p ∧ s' = s
  · rw [if_pos h, if_pos h]
  · rw [if_neg h, if_neg h, if_neg h]
theorem sJ_j (z : Zs) (c p s i : Nat) (x : Int64) : sJ z c p s i x = jJ z c p s (fun j => if j = i then x else zJ z c p s j) := by
  refine zs_ext (fun _ _ _ _ => rfl) (fun c' p' s' i' => ?_) (fun _ _ _ _ => rfl)
  rw [zJ_sJ, zJ_jJ]
  by_cases h : c' = c ∧ p' = p ∧ s' = s
  · rw [if_pos h]
    obtain ⟨rfl, rfl, rfl⟩ := h
    by_cases h2 : i' = i
    · rw [if_pos ⟨rfl, rfl, rfl, h2⟩, if_pos h2]
    · rw [if_neg (fun q => h2 q.2.2.2), if_neg h2]
  · rw [if_neg h, if_neg (fun q => h ⟨q.1, q.2.1, q.2.2.1⟩)]
theorem i_0 : (0 : Int32) = nI 0 := rfl
theorem i_1 : (1 : Int32) = nI 1 := rfl
theorem i_2 : (2 : Int32) = nI 2 := rfl
theorem i_3 : (3 : Int32) = nI 3 := rfl
theorem i_4 : (4 : Int32) = nI 4 := rfl
theorem i_5 : (5 : Int32) = nI 5 := rfl
theorem i_6 : (6 : Int32) = nI 6 := rfl
theorem i_7 : (7 : Int32) = nI 7 := rfl
theorem i_8 : (8 : Int32) = nI 8 := rfl
theorem i_9 : (9 : Int32) = nI 9 := rfl
theorem i_10 : (10 : Int32) = nI 10 := rfl
theorem i_12 : (12 : Int32) = nI 12 := rfl
theorem i_15 : (15 : Int32) = nI 15 := rfl
theorem i_17 : (17 : Int32) = nI 17 := rfl
theorem i_19 : (19 : Int32) = nI 19 := rfl
theorem i_21 : (21 : Int32) = nI 21 := rfl
theorem i_22 : (22 : Int32) = nI 22 := rfl
theorem i_23 : (23 : Int32) = nI 23 := rfl
theorem i_24 : (24 : Int32) = nI 24 := rfl
theorem i_25 : (25 : Int32) = nI 25 := rfl
theorem i_26 : (26 : Int32) = nI 26 := rfl
theorem i_27 : (27 : Int32) = nI 27 := rfl
theorem i_28 : (28 : Int32) = nI 28 := rfl
theorem i_29 : (29 : Int32) = nI 29 := rfl
theorem i_30 : (30 : Int32) = nI 30 := rfl
theorem i_31 : (31 : Int32) = nI 31 := rfl
theorem i_32 : (32 : Int32) = nI 32 := rfl
theorem i_40 : (40 : Int32) = nI 40 := rfl
theorem i_41 : (41 : Int32) = nI 41 := rfl
theorem i_42 : (42 : Int32) = nI 42 := rfl
theorem i_44 : (44 : Int32) = nI 44 := rfl
theorem i_48 : (48 : Int32) = nI 48 := rfl
theorem i_50 : (50 : Int32) = nI 50 := rfl
theorem i_57 : (57 : Int32) = nI 57 := rfl
theorem i_60 : (60 : Int32) = nI 60 := rfl
theorem i_61 : (61 : Int32) = nI 61 := rfl
theorem i_97 : (97 : Int32) = nI 97 := rfl
theorem i_100 : (100 : Int32) = nI 100 := rfl
theorem i_101 : (101 : Int32) = nI 101 := rfl
theorem i_102 : (102 : Int32) = nI 102 := rfl
theorem i_103 : (103 : Int32) = nI 103 := rfl
theorem i_104 : (104 : Int32) = nI 104 := rfl
theorem i_105 : (105 : Int32) = nI 105 := rfl
theorem i_106 : (106 : Int32) = nI 106 := rfl
theorem i_107 : (107 : Int32) = nI 107 := rfl
theorem i_109 : (109 : Int32) = nI 109 := rfl
theorem i_122 : (122 : Int32) = nI 122 := rfl
theorem i_128 : (128 : Int32) = nI 128 := rfl
theorem i_129 : (129 : Int32) = nI 129 := rfl
theorem i_130 : (130 : Int32) = nI 130 := rfl
theorem i_131 : (131 : Int32) = nI 131 := rfl
theorem i_133 : (133 : Int32) = nI 133 := rfl
theorem i_135 : (135 : Int32) = nI 135 := rfl
theorem i_136 : (136 : Int32) = nI 136 := rfl
theorem i_137 : (137 : Int32) = nI 137 := rfl
theorem i_140 : (140 : Int32) = nI 140 := rfl
theorem i_142 : (142 : Int32) = nI 142 := rfl
theorem i_145 : (145 : Int32) = nI 145 := rfl
theorem i_147 : (147 : Int32) = nI 147 := rfl
theorem i_148 : (148 : Int32) = nI 148 := rfl
theorem i_149 : (149 : Int32) = nI 149 := rfl
theorem i_150 : (150 : Int32) = nI 150 := rfl
theorem i_151 : (151 : Int32) = nI 151 := rfl
theorem i_152 : (152 : Int32) = nI 152 := rfl
theorem i_153 : (153 : Int32) = nI 153 := rfl
theorem i_154 : (154 : Int32) = nI 154 := rfl
theorem i_155 : (155 : Int32) = nI 155 := rfl
theorem i_200 : (200 : Int32) = nI 200 := rfl
theorem i_201 : (201 : Int32) = nI 201 := rfl
theorem i_202 : (202 : Int32) = nI 202 := rfl
theorem i_203 : (203 : Int32) = nI 203 := rfl
theorem i_255 : (255 : Int32) = nI 255 := rfl
theorem i_256 : (256 : Int32) = nI 256 := rfl
theorem i_420 : (420 : Int32) = nI 420 := rfl
theorem i_720 : (720 : Int32) = nI 720 := rfl
theorem i_1000 : (1000 : Int32) = nI 1000 := rfl
theorem i_1480 : (1480 : Int32) = nI 1480 := rfl
theorem i_1500 : (1500 : Int32) = nI 1500 := rfl
theorem i_1501 : (1501 : Int32) = nI 1501 := rfl
theorem i_3000 : (3000 : Int32) = nI 3000 := rfl
theorem i_16800 : (16800 : Int32) = nI 16800 := rfl
theorem i_1000000 : (1000000 : Int32) = nI 1000000 := rfl
theorem n_nz {a : Nat} : (a < 0) ↔ False := ⟨fun h => absurd h (Nat.not_lt_zero a), False.elim⟩
theorem n_gcp {a b c n0 n1 : Nat} (ha : a < 2147483648) (hb : b < 2147483648) (hc : c < 2147483648) : gcp (nI a) (nI b) (nI c) n0 n1 ↔ a + c ≤ n0 ∧ b + c ≤ n1 := by
  unfold gcp
  rw [nI_clamp ha, nI_clamp hb, nI_clamp hc]
  exact ⟨fun h => h.2.2.2, fun h => ⟨nI_pos ha, nI_pos hb, nI_pos hc, h⟩⟩
theorem sC_j (z : Zs) (c p s c2 p2 s2 sp dp n : Nat) : sC z c p s c2 p2 s2 sp dp n = jJ z c2 p2 s2 (va_cpy (zJ z c p s) (zJ z c2 p2 s2) sp dp n) := rfl
