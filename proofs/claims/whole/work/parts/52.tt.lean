/-! THE PURE PART: runs of lifted methods that end well (Wp1), pairs of them (Wp2), numbers -/
def Wp1 {α : Type} (o : Option (α × Zs)) (Q : α → Zs → Prop) : Prop := match o with
  | some (v, z) => Q v z
  | none => False
def Wp2 {α β : Type} (o : Option (α × Zs)) (r : Option (β × Zs)) (Q : α → Zs → β → Zs → Prop) : Prop := Wp1 o fun v z => Wp1 r fun w y => Q v z w y
section WP
variable {α β γ δ : Type} {o : Option (α × Zs)} {r : Option (β × Zs)} {z y : Zs} {v : α} {w : β}
theorem wp_s {Q : α → Zs → Prop} : Wp1 (some (v, z)) Q = Q v z := rfl
theorem wp_ex {Q : α → Zs → Prop} (h : Wp1 o Q) : ∃ v z, o = some (v, z) ∧ Q v z := by
  rcases o with _ | ⟨v, z⟩
  · exact h.elim
  · exact ⟨v, z, rfl, h⟩
theorem wp_of {Q : α → Zs → Prop} (e : o = some (v, z)) (h : Q v z) : Wp1 o Q := by subst e; exact h
theorem wp_m {Q R : α → Zs → Prop} (h : Wp1 o Q) (k : ∀ v z, Q v z → R v z) : Wp1 o R := by
  rcases o with _ | ⟨v, z⟩
  · exact h
  · exact k _ _ h
theorem wp_q {k : α → Zs → Option (γ × Zs)} {Q : γ → Zs → Prop} (h : Wp1 o fun v z => Wp1 (k v z) Q) : Wp1 (bq o k) Q := by
  rcases o with _ | ⟨v, z⟩
  · exact h
  · exact h
theorem bq_s {k : α → Zs → Option γ} : bq (some (v, z)) k = k v z := rfl
theorem bq_e {k : α → Zs → Option γ} (e : o = some (v, z)) : bq o k = k v z := by rw [e]; rfl
theorem lt_k {k : Zs → Option α} : lt z k = k z := rfl
theorem w2_s {Q : α → Zs → β → Zs → Prop} : Wp2 (some (v, z)) (some (w, y)) Q = Q v z w y := rfl
theorem w2_ex {Q : α → Zs → β → Zs → Prop} (h : Wp2 o r Q) : ∃ v z w y, o = some (v, z) ∧ r = some (w, y) ∧ Q v z w y := by
  obtain ⟨v, z, e, h⟩ := wp_ex h
  obtain ⟨w, y, e2, h⟩ := wp_ex h
  exact ⟨v, z, w, y, e, e2, h⟩
theorem w2_of {Q : α → Zs → β → Zs → Prop} (e : o = some (v, z)) (e2 : r = some (w, y)) (h : Q v z w y) : Wp2 o r Q := by subst e e2; exact h
theorem w2_m {Q R : α → Zs → β → Zs → Prop} (h : Wp2 o r Q) (k : ∀ v z w y, Q v z w y → R v z w y) : Wp2 o r R :=
  wp_m h fun _ _ h => wp_m h fun _ _ h => k _ _ _ _ h
/-- one step of the first run -/
theorem w2_l {k : α → Zs → Option (γ × Zs)} {Q : γ → Zs → β → Zs → Prop} (h : Wp1 o fun v z => Wp2 (k v z) r Q) : Wp2 (bq o k) r Q := wp_q h
/-- one step of the second run -/
theorem w2_r {k : β → Zs → Option (γ × Zs)} {Q : α → Zs → γ → Zs → Prop} (h : Wp1 r fun w y => Wp2 o (k w y) Q) : Wp2 o (bq r k) Q := by
  obtain ⟨w, y, e, h⟩ := wp_ex h
  subst e
  exact h
/-- a step of both -/
theorem w2_b {k : α → Zs → Option (γ × Zs)} {l : β → Zs → Option (δ × Zs)} {Q : γ → Zs → δ → Zs → Prop} (h : Wp2 o r fun v z w y => Wp2 (k v z) (l w y) Q) : Wp2 (bq o k) (bq r l) Q := by
  obtain ⟨v, z, w, y, e, e2, h⟩ := w2_ex h
  subst e e2
  exact h
theorem w2_le {k : α → Zs → Option (γ × Zs)} {Q : γ → Zs → β → Zs → Prop} (e : o = some (v, z)) (h : Wp2 (k v z) r Q) : Wp2 (bq o k) r Q := by subst e; exact h
theorem w2_re {k : β → Zs → Option (γ × Zs)} {Q : α → Zs → γ → Zs → Prop} (e : r = some (w, y)) (h : Wp2 o (k w y) Q) : Wp2 o (bq r k) Q := by subst e; exact h
theorem w2_tl {c : Prop} [Decidable c] {a b : Option (α × Zs)} {Q : α → Zs → β → Zs → Prop} (q : c) (h : Wp2 a r Q) : Wp2 (if c then a else b) r Q := by rw [if_pos q]; exact h
theorem w2_fl {c : Prop} [Decidable c] {a b : Option (α × Zs)} {Q : α → Zs → β → Zs → Prop} (q : ¬ c) (h : Wp2 b r Q) : Wp2 (if c then a else b) r Q := by rw [if_neg q]; exact h
theorem w2_tr {c : Prop} [Decidable c] {a b : Option (β × Zs)} {Q : α → Zs → β → Zs → Prop} (q : c) (h : Wp2 o a Q) : Wp2 o (if c then a else b) Q := by rw [if_pos q]; exact h
theorem w2_fr {c : Prop} [Decidable c] {a b : Option (β × Zs)} {Q : α → Zs → β → Zs → Prop} (q : ¬ c) (h : Wp2 o b Q) : Wp2 o (if c then a else b) Q := by rw [if_neg q]; exact h
theorem wp_t {c : Prop} [Decidable c] {a b : Option (α × Zs)} {Q : α → Zs → Prop} (q : c) (h : Wp1 a Q) : Wp1 (if c then a else b) Q := by rw [if_pos q]; exact h
theorem wp_f {c : Prop} [Decidable c] {a b : Option (α × Zs)} {Q : α → Zs → Prop} (q : ¬ c) (h : Wp1 b Q) : Wp1 (if c then a else b) Q := by rw [if_neg q]; exact h
end WP
/-! numbers -/
theorem n_lit (k : Nat) : (OfNat.ofNat k : Int32) = nI k := rfl
theorem n_l0 : (0 : Int32) = nI 0 := rfl
theorem n_l1 : (1 : Int32) = nI 1 := rfl
theorem n_cl {a : Nat} (h : a < 2147483648) : Int32.toNatClampNeg (nI a) = a := nI_clamp h
theorem n_gi {a n : Nat} (h : a < 2147483648) : gi (nI a) n ↔ a < n := by
  unfold gi
  rw [nI_clamp h]
  constructor
  · intro q; exact Nat.lt_of_not_le fun q2 => q (Or.inr q2)
  · intro q q2
    rcases q2 with q2 | q2
    · exact nI_pos h q2
    · omega
theorem n_le {a b : Nat} (h : a < 2147483648) (h2 : b < 2147483648) : nI a ≤ nI b ↔ a ≤ b := nI_leI h h2
theorem n_lt {a b : Nat} (h : a < 2147483648) (h2 : b < 2147483648) : nI a < nI b ↔ a < b := nI_ltI h h2
theorem n_eq {a b : Nat} (h : a < 2147483648) (h2 : b < 2147483648) : nI a = nI b ↔ a = b := nI_eq h h2
theorem n_m1i : (-nI 1 : Int32).toInt = -1 := rfl
theorem n_m1 {a : Nat} (h : a < 2147483648) : (nI a = -nI 1) ↔ False := by
  constructor
  · intro q
    have := congrArg Int32.toInt q
    rw [nI_toInt h, n_m1i] at this
    omega
  · exact False.elim
theorem n_m1' {a : Nat} (h : a < 2147483648) : (-nI 1 = nI a) ↔ False := by rw [eq_comm]; exact n_m1 h
theorem n_m1l {a : Nat} (h : a < 2147483648) : (nI a ≤ -nI 1) ↔ False := by
  rw [Int32.le_iff_toInt_le, nI_toInt h, n_m1i]
  exact ⟨fun q => by omega, False.elim⟩
theorem n_m1t {a : Nat} (h : a < 2147483648) : (-nI 1 < nI a) ↔ True := by
  rw [Int32.lt_iff_toInt_lt, nI_toInt h, n_m1i]
  exact ⟨fun _ => trivial, fun _ => by omega⟩
theorem n_m1g {a : Nat} (h : a < 2147483648) : (nI a < -nI 1) ↔ False := by
  rw [Int32.lt_iff_toInt_lt, nI_toInt h, n_m1i]
  exact ⟨fun q => by omega, False.elim⟩
theorem n_m1le {a : Nat} (h : a < 2147483648) : (-nI 1 ≤ nI a) ↔ True := by
  rw [Int32.le_iff_toInt_le, nI_toInt h, n_m1i]
  exact ⟨fun _ => trivial, fun _ => by omega⟩
theorem n_gim {n : Nat} : gi (-nI 1) n ↔ False := by
  constructor
  · intro q; exact q (Or.inl (by decide))
  · exact False.elim
theorem n_sub {a b : Nat} (h : b ≤ a) : nI a - nI b = nI (a - b) := pk_sub h
theorem n_mul (a b : Nat) : nI a * nI b = nI (a * b) := pk_mul a b
theorem n_add (a b : Nat) : nI a + nI b = nI (a + b) := nI_add a b
theorem n_p1 {a : Nat} (h : 1 ≤ a) : nI a + -nI 1 = nI (a - 1) := by
  obtain ⟨b, rfl⟩ : ∃ b, a = b + 1 := ⟨a - 1, by omega⟩
  exact pk_m1 b
theorem n_i64 {a : Nat} (h : a < 2147483648) : (nI a).toInt64 = lN a := nI_l h
theorem l_lit (k : Nat) : (OfNat.ofNat k : Int64) = lN k := rfl
theorem l_cmp0 {a b : Int64} : lg_cmp a b = 0 ↔ a = b := by
  unfold lg_cmp
  by_cases h : a > b
  · rw [if_pos h]
    constructor
    · intro q; exact absurd q (by decide)
    · intro q; subst q; exact absurd h (Int64.lt_irrefl)
  · rw [if_neg h]
    by_cases h2 : a = b
    · rw [if_pos h2]; exact ⟨fun _ => h2, fun _ => rfl⟩
    · rw [if_neg h2]
      constructor
      · intro q; exact absurd q (by decide)
      · intro q; exact absurd q h2
theorem l_cmplt {a b : Int64} : lg_cmp a b < 0 ↔ a < b := by
  unfold lg_cmp
  by_cases h : a > b
  · rw [if_pos h]
    constructor
    · intro q; exact absurd q (by decide)
    · intro q; exact absurd (Int64.lt_trans h q) Int64.lt_irrefl
  · rw [if_neg h]
    by_cases h2 : a = b
    · rw [if_pos h2]
      constructor
      · intro q; exact absurd q (by decide)
      · intro q; subst h2; exact absurd q Int64.lt_irrefl
    · rw [if_neg h2]
      constructor
      · intro _
        rw [Int64.lt_iff_toInt_lt]
        have h3 : ¬ b.toInt < a.toInt := fun q => h (Int64.lt_iff_toInt_lt.mpr q)
        have h4 : ¬ a.toInt = b.toInt := fun q => h2 (Int64.toInt_inj.mp q)
        omega
      · intro _; decide
theorem l_cmpgt {a b : Int64} : 0 < lg_cmp a b ↔ b < a := by
  unfold lg_cmp
  by_cases h : a > b
  · rw [if_pos h]; exact ⟨fun _ => h, fun _ => by decide⟩
  · rw [if_neg h]
    by_cases h2 : a = b
    · rw [if_pos h2]
      constructor
      · intro q; exact absurd q (by decide)
      · intro q; exact absurd q h
    · rw [if_neg h2]
      constructor
      · intro q; exact absurd q (by decide)
      · intro q; exact absurd q h
theorem l_nlt {a b : Int64} : ¬ a < b ↔ b ≤ a := by rw [Int64.lt_iff_toInt_lt, Int64.le_iff_toInt_le]; omega
theorem i_nlt {a b : Int32} : ¬ a < b ↔ b ≤ a := by rw [Int32.lt_iff_toInt_lt, Int32.le_iff_toInt_le]; omega
theorem i_nle {a b : Int32} : ¬ a ≤ b ↔ b < a := by rw [Int32.lt_iff_toInt_lt, Int32.le_iff_toInt_le]; omega
theorem l_cmpge {a b : Int64} : 0 ≤ lg_cmp a b ↔ b ≤ a := by rw [← i_nlt, l_cmplt, l_nlt]
theorem l_cmple {a b : Int64} : lg_cmp a b ≤ 0 ↔ a ≤ b := by
  rw [← l_nlt, ← l_cmpgt, i_nlt]
/-- a whole row written anew -/
def jJ (z : Zs) (c p s : Nat) (f : Nat → Int64) : Zs := (zI z, fun c' p' s' i' => if c' = c ∧ p' = p ∧ s' = s then f i' else zJ z c' p' s' i', zR z)
theorem zI_jJ (z : Zs) (c p s : Nat) (f : Nat → Int64) : zI (jJ z c p s f) = zI z := rfl
theorem zR_jJ (z : Zs) (c p s : Nat) (f : Nat → Int64) : zR (jJ z c p s f) = zR z := rfl
theorem zJ_jJ (z : Zs) (c p s c' p' s' i' : Nat) (f : Nat → Int64) : zJ (jJ z c p s f) c' p' s' i' = if c' = c ∧ p' = p ∧ s' = s then f i' else zJ z c' p' s' i' := rfl
theorem zs_ext {z y : Zs} (h1 : ∀ c p s i, zI z c p s i = zI y c p s i) (h2 : ∀ c p s i, zJ z c p s i = zJ y c p s i) (h3 : ∀ c p s i, zR z c p s i = zR y c p s i) : z = y := by
  obtain ⟨a, b, c⟩ := z
  obtain ⟨a2, b2, c2⟩ := y
  have e1 : a = a2 := by funext c p s i; exact h1 c p s i
  have e2 : b = b2 := by funext c p s i; exact h2 c p s i
  have e3 : c = c2 := by funext c p s i; exact h3 c p s i
  rw [e1, e2, e3]
theorem jJ_jJ (z : Zs) (c p s : Nat) (f g : Nat → Int64) : jJ (jJ z c p s f) c p s g = jJ z c p s g := by
  refine zs_ext (fun _ _ _ _ => rfl) (fun c' p' s' i' => ?_) (fun _ _ _ _ => rfl)
  rw [zJ_jJ, zJ_jJ, zJ_jJ]
  by_cases h : c' = c ∧ p' = p ∧ s' = s
  · rw [if_pos h, if_pos h]
  · rw [if_neg h, if_neg h, if_neg h]
theorem sJ_j (z : Zs) (c p s i : Nat) (x : Int64) : sJ z c p s i x = jJ z c p s (fun j => if j = i then x else zJ z c p s j) := by
  refine zs_ext (fun _ _ _ _ => rfl) (fun c' p' s' i' => ?_) (fun _ _ _ _ => rfl)
  rw [zJ_sJ, zJ_jJ]
  by_cases h : c' = c ∧ p' = p ∧ s' = s
  · rw [if_pos h]
    obtain ⟨rfl, rfl, rfl⟩ := h
    by_cases h2 : i' = i
    · rw [if_pos ⟨rfl, rfl, rfl, h2⟩, if_pos h2]
    · rw [if_neg (fun q => h2 q.2.2.2), if_neg h2]
  · rw [if_neg h, if_neg (fun q => h ⟨q.1, q.2.1, q.2.2.1⟩)]
