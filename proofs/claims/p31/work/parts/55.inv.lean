/-! WHAT HOLDS AFTER EVERY PUSH -/
def Pw (n T j : Nat) (u : Wn) : Prop := n ≤ u.2.1 ∧ u.2.1 % n = 0 ∧ u.2.1 ≤ T ∧ 1 ≤ u.2.2.1 ∧ u.2.2.1 ≤ j
theorem Pw.m {n T T' j j' : Nat} {u : Wn} (h : Pw n T j u) (hT : T ≤ T') (hj : j ≤ j') : Pw n T' j' u := ⟨h.1, h.2.1, by have := h.2.2.1; omega, h.2.2.2.1, by have := h.2.2.2.2; omega⟩
def hsum (ψ : Rw → Int64) (p : Nat × (Nat → Bool × Rw)) : Int64 := sg p.1 (fun i => if (p.2 i).1 then ψ (p.2 i).2 else 0)
theorem hsum_p {ψ : Rw → Int64} {p : Nat × (Nat → Bool × Rw)} {b : Bool} {r : Rw} : hsum ψ (p.1 + 1, pushF p.1 p.2 (b, r)) = hsum ψ p + (if b then ψ r else 0) := sg_p (φ := fun u : Bool × Rw => if u.1 then ψ u.2 else 0)
/-- m is the mark that windows and closed rows keep to -/
def Im (n T j m : Nat) (X : Dk) : Prop := ((kS X).1 + k0 X + k1 X = j ∧ kN X = j ∧ (kA X).1 + (kB X).1 = (kS X).1 ∧ (kH X).1 ≤ k1 X + (kS X).1 ∧ (kR X).1 + (kW X).1 ≤ (kS X).1 ∧ kM X ≤ T) ∧ (∀ i, i < (kW X).1 → Pw n T j ((kW X).2 i) ∧ m ≤ ((kW X).2 i).2.1) ∧ (∀ i, i + 1 < (kR X).1 → ((kR X).2 i).2.1 ≤ ((kR X).2 (i + 1)).2.1) ∧ (∀ i, i < (kR X).1 → Pw n T j ((kR X).2 i) ∧ ((kR X).2 i).2.1 < m) ∧ ∀ φ ψ, Gd φ ψ → sg (kR X).1 (fun i => φ ((kR X).2 i)) + sg (kW X).1 (fun i => φ ((kW X).2 i)) + hsum ψ (kH X) = sg (kS X).1 (fun i => ψ ((kS X).2 i))
def Iv (n T j : Nat) (X : Dk) : Prop := Im n T j (kM X) X
section INV
variable {lim n T j m M : Nat} {X : Dk} {r : Rw}
theorem cls_T {φ : Wn → Int64} (hk : (kW X).1 ≤ 60) : sg (kR (cls M X)).1 (fun i => φ ((kR (cls M X)).2 i)) + sg (kW (cls M X)).1 (fun i => φ ((kW (cls M X)).2 i)) = sg (kR X).1 (fun i => φ ((kR X).2 i)) + sg (kW X).1 (fun i => φ ((kW X).2 i)) := by
  have h1 := clL_s (φ := φ) (f := (kW X).2) (k := (kW X).1) (M := M) 60 (fun _ => false) (kR X).1 (kR X).2
  have h2 := rmg_s (φ := φ) (M := M) (kW X).1 0 0 (kW X).2 (Nat.le_refl _)
  have h3 := clL_c (f := (kW X).2) (M := M) (k := (kW X).1) 60 (fun _ => false) (kR X).1 (kR X).2 (fun _ _ _ => rfl)
  have h4 := clL_f (f := (kW X).2) (M := M) (k := (kW X).1) 60 (fun _ => false) (kR X).1 (kR X).2 (Nat.le_trans (oc_le _) hk)
  have h5 := st_sg (F := fun i => if ((kW X).2 i).2.1 < M then 0 else φ ((kW X).2 i)) (kW X).1 0
  rw [Nat.zero_add] at h5
  have h6 : sg (kW (cls M X)).1 (fun i => φ ((kW (cls M X)).2 i)) = opn φ (kW X).2 (kW X).1 (clL (kW X).2 (kW X).1 M 60 (fun _ => false) (kR X).1 (kR X).2).1 := by
    refine (show sg (kW (cls M X)).1 (fun i => φ ((kW (cls M X)).2 i)) = _ from h2).trans ((show sg 0 (fun i => φ ((kW X).2 i)) + _ = _ from h5).trans (sg_e (fun i hi => ?_)))
    show (if ((kW X).2 i).2.1 < M then 0 else φ ((kW X).2 i)) = (if (clL (kW X).2 (kW X).1 M 60 (fun _ => false) (kR X).1 (kR X).2).1 i then 0 else φ ((kW X).2 i))
    cases e : (clL (kW X).2 (kW X).1 M 60 (fun _ => false) (kR X).1 (kR X).2).1 i with
    | true =>
      have : ((kW X).2 i).2.1 < M := by
        by_cases q : M ≤ ((kW X).2 i).2.1
        · rw [h3 i hi q] at e; cases e
        · omega
      rw [if_pos this, if_pos rfl]
    | false =>
      have := h4 i hi e
      rw [if_neg (by omega), if_neg (by decide)]
  rw [h6]
  exact h1
theorem cls_n (hk : (kW X).1 ≤ 60) (hR : (kR X).1 ≤ 1000) : (kR (cls M X)).1 + (kW (cls M X)).1 = (kR X).1 + (kW X).1 := by
  have h1 := cls_T (M := M) (X := X) (φ := fun _ => 1) hk
  rw [sg_1, sg_1, sg_1, sg_1, lN_add, lN_add] at h1
  have h2 := (clL_n (f := (kW X).2) (k := (kW X).1) (M := M) 60 (fun _ => false) (kR X).1 (kR X).2).2
  have h3 := (rmg_P (M := M) (P := fun _ => True) (kW X).1 0 0 (kW X).2 (Nat.le_refl _) (fun i hi => absurd hi (by omega)) (fun _ _ _ => trivial)).1
  have e2 : (kR (cls M X)).1 ≤ (kR X).1 + 60 := h2
  have e3 : (kW (cls M X)).1 ≤ 0 + (kW X).1 := h3
  exact lN_inj (by omega) (by omega) h1
theorem cls_I (h : Im n T j m X) (hm : m ≤ kM X) (hj : j ≤ 60) : Iv n T j (cls (kM X) X) := by
  obtain ⟨⟨a1, a2, a3, a4, a5, a6⟩, b, c, d, s⟩ := h
  have hk : (kW X).1 ≤ 60 := by omega
  have hn := cls_n (M := kM X) (X := X) hk (by omega)
  have hA := clL_a (P := Pw n T j) (f := (kW X).2) (k := (kW X).1) (M := kM X) (fun i hi => (b i hi).1) 60 (fun _ => false) (kR X).1 (kR X).2 ⟨c, fun i hi => ⟨(d i hi).1, by have := (d i hi).2; omega⟩, fun j i hj hi _ _ => by have := (d j hj).2; have := (b i hi).2; omega⟩
  have hP := rmg_P (P := Pw n T j) (M := kM X) (kW X).1 0 0 (kW X).2 (Nat.le_refl _) (fun i hi => absurd hi (by omega)) (fun i _ hi => (b i (by omega)).1)
  refine ⟨⟨a1, a2, a3, a4, by rw [hn]; exact a5, a6⟩, hP.2, hA.1, hA.2.1, fun φ ψ hg => ?_⟩
  rw [cls_T hk]
  exact s φ ψ hg
theorem wnk_Q {Q : Wn → Prop} {k : Nat} {f : Nat → Wn} {key v : Int64} {e : Nat} (h : ∀ i, i < k → Q (f i)) (h1 : Q (key, e, 1, v)) (h2 : ∀ i, i < k → Q (key, e, (f i).2.2.1 + 1, tot 22 ((f i).2.2.1 + 1) (f i).2.2.2 v)) : ∀ i, i < (wnk k f key e v).1 → Q ((wnk k f key e v).2 i) := by
  unfold wnk
  by_cases q : plc f key e k 0 = k
  · rw [if_pos q]
    intro i hi
    show Q (pushF k f (key, e, 1, v) i)
    by_cases p : i = k
    · rw [p, pushF_s]; exact h1
    · rw [pushF_n p]; exact h i (by have : i < k + 1 := hi; omega)
  · rw [if_neg q]
    have hl : plc f key e k 0 < k := by have := plc_le (f := f) (key := key) (e := e) k 0; omega
    intro i hi
    show Q (pushF (plc f key e k 0) f _ i)
    by_cases p : i = plc f key e k 0
    · rw [p, pushF_s]; exact h2 _ hl
    · rw [pushF_n p]; exact h i hi
theorem rs_p {ψ : Rw → Int64} {p : Nat × (Nat → Rw)} : sg (p.1 + 1) (fun i => ψ (pushF p.1 p.2 r i)) = sg p.1 (fun i => ψ (p.2 i)) + ψ r := sg_p
theorem spW_I (hn : 0 < n) (hT : r.1 + n ≤ T) (a : (kS X).1 + k0 X + k1 X = j + 1 ∧ kN X = j + 1 ∧ (kA X).1 + (kB X).1 = (kS X).1 ∧ (kH X).1 + 1 ≤ k1 X + (kS X).1 ∧ (kR X).1 + (kW X).1 + 1 ≤ (kS X).1 ∧ kM X ≤ T) (b : ∀ i, i < (kW X).1 → Pw n T j ((kW X).2 i) ∧ m ≤ ((kW X).2 i).2.1) (c : ∀ i, i + 1 < (kR X).1 → ((kR X).2 i).2.1 ≤ ((kR X).2 (i + 1)).2.1) (d : ∀ i, i < (kR X).1 → Pw n T j ((kR X).2 i) ∧ ((kR X).2 i).2.1 < m) (s : ∀ φ ψ, Gd φ ψ → sg (kR X).1 (fun i => φ ((kR X).2 i)) + sg (kW X).1 (fun i => φ ((kW X).2 i)) + hsum ψ (kH X) + ψ r = sg (kS X).1 (fun i => ψ ((kS X).2 i))) : Im n T (j + 1) m (spW n m X r) := by
  obtain ⟨a1, a2, a3, a4, a5, a6⟩ := a
  have hb := Nat.div_mul_le_self r.1 n
  unfold spW
  by_cases q : m ≤ r.1 / n * n + n
  · rw [if_pos q]
    have hw := wnk_le (k := (kW X).1) (f := (kW X).2) (key := r.2.1) (e := r.1 / n * n + n) (v := r.2.2)
    refine ⟨⟨a1, a2, a3, by show (kH X).1 ≤ k1 X + (kS X).1; omega, by show (kR X).1 + (wnk (kW X).1 (kW X).2 r.2.1 (r.1 / n * n + n) r.2.2).1 ≤ (kS X).1; omega, a6⟩, ?_, c, fun i hi => ⟨(d i hi).1.m (Nat.le_refl _) (by omega), (d i hi).2⟩, fun φ ψ hg => ?_⟩
    · intro i hi
      have hm : (r.1 / n * n + n) % n = 0 := by rw [Nat.add_mod_right, Nat.mul_mod_left]
      exact wnk_Q (Q := fun u => Pw n T (j + 1) u ∧ m ≤ u.2.1) (k := (kW X).1) (f := (kW X).2) (key := r.2.1) (e := r.1 / n * n + n) (v := r.2.2) (fun i hi => ⟨(b i hi).1.m (Nat.le_refl _) (by omega), (b i hi).2⟩) ⟨⟨by show n ≤ r.1 / n * n + n; omega, hm, by show r.1 / n * n + n ≤ T; omega, Nat.le_refl _, by show 1 ≤ j + 1; omega⟩, q⟩ (fun i hi => ⟨⟨by show n ≤ r.1 / n * n + n; omega, hm, by show r.1 / n * n + n ≤ T; omega, by show 1 ≤ ((kW X).2 i).2.2.1 + 1; omega, by have := (b i hi).1.2.2.2.2; show ((kW X).2 i).2.2.1 + 1 ≤ j + 1; omega⟩, q⟩) i hi
    · have := wnk_s (k := (kW X).1) (f := (kW X).2) (key := r.2.1) (e := r.1 / n * n + n) (v := r.2.2) (t := r.1) hg (fun i hi => (b i hi).1.2.2.2.1)
      show sg (kR X).1 (fun i => φ ((kR X).2 i)) + sg (wnk (kW X).1 (kW X).2 r.2.1 (r.1 / n * n + n) r.2.2).1 (fun i => φ ((wnk (kW X).1 (kW X).2 r.2.1 (r.1 / n * n + n) r.2.2).2 i)) + hsum ψ (kH X) = _
      refine Eq.trans ?_ (s φ ψ hg)
      rw [this, ← Int64.add_assoc, Int64.add_assoc, Int64.add_comm (ψ _), ← Int64.add_assoc]
  · rw [if_neg q]
    refine ⟨⟨a1, a2, a3, a4, by show (kR X).1 + (kW X).1 ≤ (kS X).1; omega, a6⟩, fun i hi => ⟨(b i hi).1.m (Nat.le_refl _) (by omega), (b i hi).2⟩, c, fun i hi => ⟨(d i hi).1.m (Nat.le_refl _) (by omega), (d i hi).2⟩, fun φ ψ hg => ?_⟩
    show _ + hsum ψ ((kH X).1 + 1, pushF (kH X).1 (kH X).2 (true, r)) = _
    rw [hsum_p, if_pos rfl, ← Int64.add_assoc]
    exact s φ ψ hg
theorem stp_I (h : Iv n T j X) (hn : 0 < n) (hT : r.1 + n ≤ T) (hj : j < 60) : Iv n T (j + 1) (stp lim n X r) := by
  obtain ⟨⟨a1, a2, a3, a4, a5, a6⟩, b, c, d, s⟩ := h
  have hM : kM X ≤ max (kM X) (r.1 + 1 - 3) := Nat.le_max_left _ _
  have hM2 : max (kM X) (r.1 + 1 - 3) ≤ T := by omega
  have b' : ∀ i, i < (kW X).1 → Pw n T (j + 1) ((kW X).2 i) ∧ kM X ≤ ((kW X).2 i).2.1 := fun i hi => ⟨(b i hi).1.m (Nat.le_refl _) (by omega), (b i hi).2⟩
  have d' : ∀ i, i < (kR X).1 → Pw n T (j + 1) ((kR X).2 i) ∧ ((kR X).2 i).2.1 < kM X := fun i hi => ⟨(d i hi).1.m (Nat.le_refl _) (by omega), (d i hi).2⟩
  unfold stp
  by_cases q2 : r.2.2 = 2
  · rw [if_pos (Or.inl q2)]
    unfold psh
    rw [if_pos q2]
    exact cls_I (m := kM X) (X := s0k (mrk X r) (k0 X + 1)) ⟨⟨by show (kS X).1 + (k0 X + 1) + k1 X = j + 1; omega, by show kN X + 1 = j + 1; omega, a3, a4, a5, hM2⟩, b', c, d', s⟩ hM (by omega)
  · by_cases q5 : r.2.2 = 5
    · rw [if_pos (Or.inr q5)]
      unfold psh
      rw [if_neg q2, if_pos q5]
      refine cls_I (m := kM X) (X := sH (s1k (mrk X r) (k1 X + 1)) ((kH X).1 + 1, pushF (kH X).1 (kH X).2 (false, r))) ⟨⟨by show (kS X).1 + k0 X + (k1 X + 1) = j + 1; omega, by show kN X + 1 = j + 1; omega, a3, by show (kH X).1 + 1 ≤ k1 X + 1 + (kS X).1; omega, a5, hM2⟩, b', c, d', fun φ ψ hg => ?_⟩ hM (by omega)
      show _ + hsum ψ ((kH X).1 + 1, pushF (kH X).1 (kH X).2 (false, r)) = _
      rw [hsum_p, if_neg (by decide), Int64.add_zero]
      exact s φ ψ hg
    · rw [if_neg (fun e => e.elim q2 q5)]
      unfold psh
      rw [if_neg q2, if_neg q5]
      have key : ∀ Y : Dk, kS Y = ((kS X).1 + 1, pushF (kS X).1 (kS X).2 r) → k0 Y = k0 X → k1 Y = k1 X → kN Y = kN X + 1 → (kA Y).1 + (kB Y).1 = (kS X).1 + 1 → kH Y = kH X → kW Y = kW X → kR Y = kR X → kM Y = max (kM X) (r.1 + 1 - 3) → Im n T (j + 1) (kM X) (spW n (kM X) Y r) := by
        intro Y e1 e2 e3 e4 e5 e6 e7 e8 e9
        refine spW_I (j := j) hn hT ⟨by rw [e1, e2, e3]; show (kS X).1 + 1 + k0 X + k1 X = j + 1; omega, by rw [e4]; omega, by rw [e1]; exact e5, by rw [e6, e3, e1]; show (kH X).1 + 1 ≤ k1 X + ((kS X).1 + 1); omega, by rw [e8, e7, e1]; show (kR X).1 + (kW X).1 + 1 ≤ (kS X).1 + 1; omega, by rw [e9]; exact hM2⟩ (by rw [e7]; exact b) (by rw [e8]; exact c) (by rw [e8]; exact d) (fun φ ψ hg => ?_)
        rw [e8, e7, e6, e1, s φ ψ hg]
        exact sg_p.symm
      have hS : ∀ Z : Dk, kM (spW n (kM X) Z r) = kM Z := fun Z => spW_S.2.2.2.1
      by_cases q : lN lim < r.2.2
      · unfold spB spA
        rw [if_pos q, if_pos q]
        have := key (sA (sS (mrk X r) ((kS X).1 + 1, pushF (kS X).1 (kS X).2 r)) ((kA X).1 + 1, pushF (kA X).1 (kA X).2 r)) rfl rfl rfl rfl (by show (kA X).1 + 1 + (kB X).1 = (kS X).1 + 1; omega) rfl rfl rfl rfl
        have w := cls_I this (by rw [hS]; exact hM) (by omega)
        rw [hS] at w
        exact w
      · unfold spB spA
        rw [if_neg q, if_neg q]
        have := key (sB (sS (mrk X r) ((kS X).1 + 1, pushF (kS X).1 (kS X).2 r)) ((kB X).1 + 1, pushF (kB X).1 (kB X).2 r)) rfl rfl rfl rfl (by show (kA X).1 + ((kB X).1 + 1) = (kS X).1 + 1; omega) rfl rfl rfl rfl
        have w := cls_I this (by rw [hS]; exact hM) (by omega)
        rw [hS] at w
        exact w
theorem D0_I : Iv n T 0 D0 := ⟨⟨rfl, rfl, rfl, Nat.le_refl _, Nat.le_refl _, Nat.zero_le _⟩, fun i hi => absurd hi (by show ¬ i < 0; omega), fun i hi => absurd hi (by show ¬ i + 1 < 0; omega), fun i hi => absurd hi (by show ¬ i < 0; omega), fun φ ψ _ => rfl⟩
theorem Iv.rm (h : Iv n T j X) (hj : j < 59) (hT : T ≤ 100000) : Rm n X := by
  obtain ⟨⟨a1, a2, a3, a4, a5, a6⟩, b, c, d, s⟩ := h
  exact ⟨by omega, by omega, by omega, by omega, by omega, by omega, by omega, fun i hi => by
    obtain ⟨⟨g1, g2, g3, g4, g5⟩, g6⟩ := b i hi
    exact ⟨g1, by omega, by omega⟩⟩
theorem Iv.up {T' : Nat} (h : Iv n T j X) (hT : T ≤ T') : Iv n T' j X := by
  obtain ⟨⟨a1, a2, a3, a4, a5, a6⟩, b, c, d, s⟩ := h
  exact ⟨⟨a1, a2, a3, a4, a5, by omega⟩, fun i hi => ⟨(b i hi).1.m hT (Nat.le_refl _), (b i hi).2⟩, c, fun i hi => ⟨(d i hi).1.m hT (Nat.le_refl _), (d i hi).2⟩, s⟩
end INV
