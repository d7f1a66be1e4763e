/-! SUMS -/
def sg : Nat → (Nat → Int64) → Int64
  | 0, _ => 0
  | k + 1, f => sg k f + f k
theorem sg_e : ∀ {k : Nat} {f g : Nat → Int64}, (∀ i, i < k → f i = g i) → sg k f = sg k g
  | 0, _, _, _ => rfl
  | k + 1, f, g, h => by
    show sg k f + f k = sg k g + g k
    rw [sg_e (k := k) (fun i hi => h i (by omega)), h k (by omega)]
theorem sg_d : ∀ {k w : Nat} {a b : Nat → Int64}, w < k → (∀ i, i < k → i ≠ w → a i = b i) → sg k a + b w = sg k b + a w
  | 0, _, _, _, h, _ => absurd h (by omega)
  | k + 1, w, a, b, h, hn => by
    show sg k a + a k + b w = sg k b + b k + a w
    by_cases q : w = k
    · subst q
      rw [sg_e (k := w) (f := a) (g := b) (fun i hi => hn i (by omega) (by omega)), Int64.add_assoc, Int64.add_comm (a w), ← Int64.add_assoc]
    · have := sg_d (k := k) (w := w) (a := a) (b := b) (by omega) (fun i hi => hn i (by omega))
      rw [hn k (by omega) (fun e => q e.symm), Int64.add_assoc, Int64.add_comm (b k), ← Int64.add_assoc, this, Int64.add_assoc, Int64.add_comm (a w), ← Int64.add_assoc]
theorem sg_p {α : Type} {k : Nat} {f : Nat → α} {x : α} {φ : α → Int64} : sg (k + 1) (fun i => φ (pushF k f x i)) = sg k (fun i => φ (f i)) + φ x := by
  show sg k (fun i => φ (pushF k f x i)) + φ (pushF k f x k) = _
  rw [pushF_s, sg_e (g := fun i => φ (f i)) (fun i hi => by rw [pushF_n (by omega)])]
theorem sg_1 : ∀ k : Nat, sg k (fun _ => 1) = lN k
  | 0 => rfl
  | k + 1 => by
    show sg k (fun _ => 1) + 1 = lN (k + 1)
    rw [sg_1 k]
    exact lN_1 k
def st (F : Nat → Int64) : Nat → Nat → Int64
  | 0, _ => 0
  | m + 1, y => F y + st F m (y + 1)
theorem st_e {F G : Nat → Int64} : ∀ {m y : Nat}, (∀ i, y ≤ i → F i = G i) → st F m y = st G m y
  | 0, _, _ => rfl
  | m + 1, y, h => by
    show F y + st F m (y + 1) = G y + st G m (y + 1)
    rw [h y (Nat.le_refl _), st_e (m := m) (fun i hi => h i (by omega))]
theorem st_sg {F : Nat → Int64} : ∀ m y : Nat, sg y F + st F m y = sg (y + m) F
  | 0, y => Int64.add_zero _
  | m + 1, y => by
    show sg y F + (F y + st F m (y + 1)) = _
    rw [← Int64.add_assoc]
    show sg (y + 1) F + st F m (y + 1) = _
    rw [st_sg m (y + 1), show y + 1 + m = y + (m + 1) by omega]
/-- a weight of windows and the weight of rows that makes it -/
def Gd (φ : Wn → Int64) (ψ : Rw → Int64) : Prop := (∀ key e v t, φ (key, e, 1, v) = ψ (t, key, v)) ∧ ∀ (u : Wn) key e v t, 1 ≤ u.2.2.1 → φ (key, e, u.2.2.1 + 1, tot 22 (u.2.2.1 + 1) u.2.2.2 v) = φ u + ψ (t, key, v)
theorem gd_c : Gd (fun u => lN u.2.2.1) (fun _ => 1) := ⟨fun _ _ _ _ => rfl, fun u _ _ _ _ _ => (lN_1 u.2.2.1).symm⟩
theorem gd_s : Gd (fun u => u.2.2.2) (fun r => r.2.2) := ⟨fun _ _ _ _ => rfl, fun u key e v t h => by
  show tot 22 (u.2.2.1 + 1) u.2.2.2 v = u.2.2.2 + v
  unfold tot
  rw [if_neg (by decide), if_neg (by omega), if_pos rfl]⟩
section SUM
variable {φ : Wn → Int64} {ψ : Rw → Int64} {f : Nat → Wn} {k M : Nat}
theorem wnk_s {key v : Int64} {e t : Nat} (h : Gd φ ψ) (hz : ∀ i, i < k → 1 ≤ (f i).2.2.1) : sg (wnk k f key e v).1 (fun i => φ ((wnk k f key e v).2 i)) = sg k (fun i => φ (f i)) + ψ (t, key, v) := by
  unfold wnk
  by_cases q : plc f key e k 0 = k
  · rw [if_pos q]
    show sg (k + 1) (fun i => φ (pushF k f (key, e, 1, v) i)) = _
    rw [sg_p, h.1 key e v t]
  · rw [if_neg q]
    have hl : plc f key e k 0 < k := by have := plc_le (f := f) (key := key) (e := e) k 0; omega
    generalize plc f key e k 0 = w at *
    have := sg_d (k := k) (w := w) (a := fun i => φ (pushF w f (key, e, (f w).2.2.1 + 1, tot 22 ((f w).2.2.1 + 1) (f w).2.2.2 v) i)) (b := fun i => φ (f i)) hl (fun i _ hn => by show φ (pushF w f _ i) = _; rw [pushF_n hn])
    simp only [pushF_s] at this
    rw [h.2 (f w) key e v t (hz w hl), Int64.add_comm (φ (f w)), ← Int64.add_assoc] at this
    exact (Int64.add_left_inj _).mp this
/-- open windows' weight -/
def opn (φ : Wn → Int64) (f : Nat → Wn) (k : Nat) (c : Nat → Bool) : Int64 := sg k (fun i => if c i then 0 else φ (f i))
theorem clL_s : ∀ (m : Nat) (c : Nat → Bool) (r : Nat) (g : Nat → Wn), sg (clL f k M m c r g).2.1 (fun i => φ ((clL f k M m c r g).2.2 i)) + opn φ f k (clL f k M m c r g).1 = sg r (fun i => φ (g i)) + opn φ f k c
  | 0, c, r, g => rfl
  | m + 1, c, r, g => by
    by_cases q : pck f c M k 0 0 = 0
    · rw [show clL f k M (m + 1) c r g = (c, r, g) from if_pos q]
    · rw [show clL f k M (m + 1) c r g = clL f k M m (pushF (pck f c M k 0 0 - 1) c true) (r + 1) (pushF r g (f (pck f c M k 0 0 - 1))) from if_neg q, clL_s m, sg_p]
      obtain ⟨g1, g2, g3⟩ := (pck_0 (f := f) (c := c) (M := M) k).1 q
      generalize pck f c M k 0 0 - 1 = w at *
      have := sg_d (k := k) (w := w) (a := fun i => if pushF w c true i then 0 else φ (f i)) (b := fun i => if c i then 0 else φ (f i)) g3 (fun i _ hn => by show (if pushF w c true i then 0 else φ (f i)) = _; rw [pushF_n hn])
      simp only [pushF_s, g1, if_pos, Bool.false_eq_true, if_false, Int64.add_zero] at this
      unfold opn
      rw [← this, Int64.add_assoc, Int64.add_comm (φ (f w))]
/-- how many are open -/
def oc (c : Nat → Bool) : Nat → Nat
  | 0 => 0
  | k + 1 => oc c k + (if c k then 0 else 1)
theorem oc_le {c : Nat → Bool} : ∀ k, oc c k ≤ k
  | 0 => Nat.le_refl _
  | k + 1 => by unfold oc; have := oc_le (c := c) k; split <;> omega
theorem oc_0 {c : Nat → Bool} : ∀ k, oc c k = 0 → ∀ i, i < k → c i = true
  | 0, _, i, hi => absurd hi (by omega)
  | k + 1, h, i, hi => by
    unfold oc at h
    by_cases q : i = k
    · subst q
      cases e : c i with
      | true => rfl
      | false => rw [e] at h; simp at h
    · exact oc_0 k (by omega) i (by omega)
theorem oc_o {c : Nat → Bool} {w : Nat} : ∀ k, k ≤ w → oc (pushF w c true) k = oc c k
  | 0, _ => rfl
  | k + 1, h => by
    unfold oc
    rw [oc_o k (by omega), pushF_n (by omega)]
theorem oc_w {c : Nat → Bool} {w : Nat} (hc : c w = false) : ∀ k, w < k → oc (pushF w c true) k + 1 = oc c k
  | 0, h => absurd h (by omega)
  | k + 1, h => by
    unfold oc
    by_cases q : w = k
    · subst q
      rw [oc_o w (Nat.le_refl _), pushF_s, hc]; rfl
    · rw [pushF_n (fun e => q e.symm)]
      have := oc_w hc k (by omega)
      omega
theorem clL_f : ∀ (m : Nat) (c : Nat → Bool) (r : Nat) (g : Nat → Wn), oc c k ≤ m → ∀ i, i < k → (clL f k M m c r g).1 i = false → M ≤ (f i).2.1
  | 0, c, r, g, h, i, hi, hc => by
    have := oc_0 (c := c) k (by omega) i hi
    rw [show (clL f k M 0 c r g).1 i = c i from rfl, this] at hc
    cases hc
  | m + 1, c, r, g, h, i, hi, hc => by
    by_cases q : pck f c M k 0 0 = 0
    · rw [show clL f k M (m + 1) c r g = (c, r, g) from if_pos q] at hc
      by_cases e : M ≤ (f i).2.1
      · exact e
      · exact absurd q ((pck_0 (f := f) (c := c) (M := M) k).2 i hi hc (by omega)).1
    · rw [show clL f k M (m + 1) c r g = clL f k M m (pushF (pck f c M k 0 0 - 1) c true) (r + 1) (pushF r g (f (pck f c M k 0 0 - 1))) from if_neg q] at hc
      obtain ⟨g1, g2, g3⟩ := (pck_0 (f := f) (c := c) (M := M) k).1 q
      have := oc_w g1 k g3
      exact clL_f m _ _ _ (by omega) i hi hc
/-- closed rows in order, below the mark, each of them fit -/
def Asc (P : Wn → Prop) (f : Nat → Wn) (k M : Nat) (c : Nat → Bool) (r : Nat) (g : Nat → Wn) : Prop := (∀ i, i + 1 < r → (g i).2.1 ≤ (g (i + 1)).2.1) ∧ (∀ i, i < r → P (g i) ∧ (g i).2.1 < M) ∧ ∀ j i, j < r → i < k → c i = false → (f i).2.1 < M → (g j).2.1 ≤ (f i).2.1
theorem clL_a {P : Wn → Prop} (hP : ∀ i, i < k → P (f i)) : ∀ (m : Nat) (c : Nat → Bool) (r : Nat) (g : Nat → Wn), Asc P f k M c r g → Asc P f k M (clL f k M m c r g).1 (clL f k M m c r g).2.1 (clL f k M m c r g).2.2
  | 0, c, r, g, h => h
  | m + 1, c, r, g, h => by
    by_cases q : pck f c M k 0 0 = 0
    · rw [show clL f k M (m + 1) c r g = (c, r, g) from if_pos q]; exact h
    · rw [show clL f k M (m + 1) c r g = clL f k M m (pushF (pck f c M k 0 0 - 1) c true) (r + 1) (pushF r g (f (pck f c M k 0 0 - 1))) from if_neg q]
      obtain ⟨g1, g2, g3⟩ := (pck_0 (f := f) (c := c) (M := M) k).1 q
      have g4 := (pck_0 (f := f) (c := c) (M := M) k).2
      generalize hw : pck f c M k 0 0 - 1 = w at *
      obtain ⟨h1, h2, h3⟩ := h
      refine clL_a hP m _ _ _ ⟨fun i hi => ?_, fun i hi => ?_, fun j i hj hi hc hM => ?_⟩
      · by_cases e : i + 1 = r
        · rw [pushF_n (show i ≠ r by omega), e, pushF_s]
          exact h3 i w (by omega) g3 g1 g2
        · rw [pushF_n (show i ≠ r by omega), pushF_n e]; exact h1 i (by omega)
      · by_cases e : i = r
        · rw [e, pushF_s]; exact ⟨hP w g3, g2⟩
        · rw [pushF_n e]; exact h2 i (by omega)
      · have hiw : i ≠ w := fun e => by rw [e, pushF_s] at hc; cases hc
        rw [pushF_n hiw] at hc
        by_cases e : j = r
        · rw [e, pushF_s]; exact (g4 i hi hc hM).2
        · rw [pushF_n e]; exact h3 j i (by omega) hi hc hM
theorem clL_n : ∀ (m : Nat) (c : Nat → Bool) (r : Nat) (g : Nat → Wn), r ≤ (clL f k M m c r g).2.1 ∧ (clL f k M m c r g).2.1 ≤ r + m
  | 0, c, r, g => ⟨Nat.le_refl _, Nat.le_refl _⟩
  | m + 1, c, r, g => by
    unfold clL
    split
    · exact ⟨Nat.le_refl _, by show r ≤ r + (m + 1); omega⟩
    · have := clL_n m (pushF (pck f c M k 0 0 - 1) c true) (r + 1) (pushF r g (f (pck f c M k 0 0 - 1))); omega
theorem rmg_s : ∀ (m a y : Nat) (f : Nat → Wn), a ≤ y → sg (rmg M m a y f).1 (fun i => φ ((rmg M m a y f).2 i)) = sg a (fun i => φ (f i)) + st (fun i => if (f i).2.1 < M then 0 else φ (f i)) m y
  | 0, a, y, f, h => (Int64.add_zero _).symm
  | m + 1, a, y, f, h => by
    by_cases q : (f y).2.1 < M
    · rw [show rmg M (m + 1) a y f = rmg M m a (y + 1) f from if_pos q, rmg_s m a (y + 1) f (by omega)]
      show _ = _ + ((if (f y).2.1 < M then 0 else φ (f y)) + _)
      rw [if_pos q, Int64.zero_add]
    · rw [show rmg M (m + 1) a y f = rmg M m (a + 1) (y + 1) (pushF a f (f y)) from if_neg q, rmg_s m (a + 1) (y + 1) _ (by omega), sg_p]
      show _ = _ + ((if (f y).2.1 < M then 0 else φ (f y)) + _)
      rw [if_neg q, Int64.add_assoc, st_e (F := fun i => if (pushF a f (f y) i).2.1 < M then 0 else φ (pushF a f (f y) i)) (G := fun i => if (f i).2.1 < M then 0 else φ (f i)) (fun i hi => by rw [pushF_n (show i ≠ a by omega)])]
theorem rmg_P {P : Wn → Prop} : ∀ (m a y : Nat) (f : Nat → Wn), a ≤ y → (∀ i, i < a → P (f i) ∧ M ≤ (f i).2.1) → (∀ i, y ≤ i → i < y + m → P (f i)) → (rmg M m a y f).1 ≤ a + m ∧ ∀ i, i < (rmg M m a y f).1 → P ((rmg M m a y f).2 i) ∧ M ≤ ((rmg M m a y f).2 i).2.1
  | 0, a, y, f, h, h1, h2 => ⟨Nat.le_refl _, h1⟩
  | m + 1, a, y, f, h, h1, h2 => by
    by_cases q : (f y).2.1 < M
    · rw [show rmg M (m + 1) a y f = rmg M m a (y + 1) f from if_pos q]
      obtain ⟨g1, g2⟩ := rmg_P (P := P) m a (y + 1) f (by omega) h1 (fun i hi hi2 => h2 i (by omega) (by omega))
      exact ⟨by omega, g2⟩
    · rw [show rmg M (m + 1) a y f = rmg M m (a + 1) (y + 1) (pushF a f (f y)) from if_neg q]
      obtain ⟨g1, g2⟩ := rmg_P (P := P) m (a + 1) (y + 1) (pushF a f (f y)) (by omega) (fun i hi => by
        by_cases e : i = a
        · rw [e, pushF_s]; exact ⟨h2 y (Nat.le_refl _) (by omega), by omega⟩
        · rw [pushF_n e]; exact h1 i (by omega)) (fun i hi hi2 => by rw [pushF_n (by omega)]; exact h2 i (by omega) (by omega))
      exact ⟨by omega, g2⟩
/-- only the last stays -/
theorem rmg_1 : ∀ (m y : Nat) (f : Nat → Wn), (∀ i, y ≤ i → i < y + m → (f i).2.1 < M) → ¬ (f (y + m)).2.1 < M → rmg M (m + 1) 0 y f = (1, pushF 0 f (f (y + m)))
  | 0, y, f, h, hn => by
    rw [show rmg M (0 + 1) 0 y f = rmg M 0 (0 + 1) (y + 1) (pushF 0 f (f y)) from if_neg hn]; rfl
  | m + 1, y, f, h, hn => by
    rw [show rmg M (m + 1 + 1) 0 y f = rmg M (m + 1) 0 (y + 1) f from if_pos (h y (Nat.le_refl _) (by omega)), rmg_1 m (y + 1) f (fun i hi hi2 => h i (by omega) (by omega)) (by rw [show y + 1 + m = y + (m + 1) by omega]; exact hn), show y + 1 + m = y + (m + 1) by omega]
end SUM
