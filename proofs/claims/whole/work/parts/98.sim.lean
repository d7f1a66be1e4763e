/-! BOTH PARSERS SIDE BY SIDE: the frame of the proof. x: S, g, m (0: the law reads the form, 1: the meaning), both states at the start, the tokens -/
abbrev Tk : Type := Nat × (Nat → Nat) × (Nat → Nat) × (Nat → Int64)
abbrev Cx : Type := Nat × Nat × Nat × Zs × Zs × Tk
def qS (x : Cx) : Nat := x.1
def qG (x : Cx) : Nat := x.2.1
def qM (x : Cx) : Nat := x.2.2.1
def qC (x : Cx) : Zs := x.2.2.2.1
def qL (x : Cx) : Zs := x.2.2.2.2.1
def qN (x : Cx) : Nat := x.2.2.2.2.2.1
def qk (x : Cx) (j : Nat) : Nat := x.2.2.2.2.2.2.1 j
def qp (x : Cx) (j : Nat) : Nat := x.2.2.2.2.2.2.2.1 j
def qw (x : Cx) (j : Nat) : Int64 := x.2.2.2.2.2.2.2.2 j
def wL (m g c q : Nat) : Bool := (decide (q = 0) && [905, 907, 908, 910, 911, 1936, 1937, 1938].contains c || decide (q = g) && [768, 781, 785, 1793, 1794, 1795, 1796, 1797, 1798, 1799, 1800, 1801, 1802, 1803, 1804, 1806, 1807, 1808, 1810, 1811].contains c) && !(decide (m = 0) && decide (c = 785))
def LFr (x : Cx) (ρ : Zs) : Prop := ∀ c q, wL (qM x) (qG x) c q = false → ∀ s i, zI ρ c q s i = zI (qL x) c q s i ∧ zJ ρ c q s i = zJ (qL x) c q s i ∧ zR ρ c q s i = zR (qL x) c q s i
/-- the tokens -/
def TKj (x : Cx) (σ ρ : Zs) (j : Nat) : Prop := vk (qk x j) = true ∧ qp x j ≤ 1500 ∧ zI ρ 1926 0 0 j = nI (qk x j) ∧ zI ρ 1927 0 0 j = nI (qp x j) ∧ zJ ρ 1928 0 0 j = qw x j ∧ zI σ 1600 0 0 j = ck (qk x j) ∧ zI σ 1601 0 0 j = nI (qp x j) ∧ (qk x j ≠ 203 → zJ σ 1602 0 0 j = qw x j) ∧ (qk x j = 200 → isName (qw x j)) ∧ (qk x j = 201 → ∃ n, n < 1000000000 ∧ qw x j = lN n)
def TKs (x : Cx) (σ ρ : Zs) : Prop := (1 ≤ qN x ∧ qN x ≤ 1501) ∧ (∃ C, qN x ≤ C ∧ C ≤ 1501 ∧ zI σ 580 0 0 0 = nI C) ∧ (∀ j, j < qN x → TKj x σ ρ j) ∧ (∀ j, j + 1 < qN x → qk x j < 202) ∧ 202 ≤ qk x (qN x - 1)
def Cok (x : Cx) : Prop := TKs x (qC x) (qL x) ∧ zR (qL x) 909 0 0 0 = (qG x, 0) ∧ zI (qL x) 906 0 0 0 = nI (qM x) ∧ qM x ≤ 1
/-- both look at token t -/
def PSt (x : Cx) (t : Nat) (σ ρ : Zs) : Prop := t < qN x ∧ zI σ 258 0 0 0 = -nI 1 ∧ zI σ 259 0 0 0 = nI t ∧ zI σ 260 0 0 0 = ck (qk x t) ∧ zI σ 261 0 0 0 = nI (qp x t) ∧ (qk x t ≠ 203 → zJ σ 262 0 0 0 = qw x t) ∧ zI ρ 905 0 0 0 = nI t
/-- the law has thrown e; the class knows -/
def Ew (x : Cx) (e : Int32 × Int32) (σ : Zs) : Prop := (e.1 = 1 ∧ zI σ 258 0 0 0 = e.2 ∧ zI σ 258 0 0 0 ≠ -nI 1) ∨ (qM x = 1 ∧ e.1 ≠ 1 ∧ zI σ 192 0 0 0 = e.1 ∧ zI σ 193 0 0 0 = e.2 ∧ zI σ 192 0 0 0 ≠ 0)
def Er (x : Cx) (b : Nat) (e : Int32 × Int32) (σ ρ : Zs) : Prop := St (qS x) b (qC x) σ ∧ LFr x ρ ∧ Ew x e σ
def Er0 (x : Cx) (e : Int32 × Int32) (σ ρ : Zs) : Prop := St0 (qS x) (qC x) σ ∧ LFr x ρ ∧ Ew x e σ
def Smk {α β : Type} (E : Int32 × Int32 → Zs → Zs → Prop) (Q : α → Zs → β → Zs → Prop) (v : α) (σ : Zs) (w : Except (Int32 × Int32) β) (ρ : Zs) : Prop := match w with
  | .ok a => Q v σ a ρ
  | .error e => E e σ ρ
def SM {α β : Type} (E : Int32 × Int32 → Zs → Zs → Prop) (o : Option (α × Zs)) (r : Option (Except (Int32 × Int32) β × Zs)) (Q : α → Zs → β → Zs → Prop) : Prop := Wp1 o fun v σ => Wp1 r fun w ρ => Smk E Q v σ w ρ
section SI
variable {x : Cx} {b t : Nat} {σ ρ : Zs} {e : Int32 × Int32} {α β γ δ : Type}
theorem St.tr {S b : Nat} {σ0 z z' : Zs} (h : St S b σ0 z) (k : St S b z z') : St S b σ0 z' := ⟨k.1, k.2.1, h.2.2.tr k.2.2⟩
theorem St0.tr {S : Nat} {σ0 z z' : Zs} (h : St0 S σ0 z) (k : St0 S z z') : St0 S σ0 z' := ⟨k.1, h.2.tr k.2⟩
theorem Ew.go {S : Nat} {z z' : Zs} (h : Ew x e z) (k : Sk S z z') : Ew x e z' := by
  rcases h with ⟨h1, h2, h3⟩ | ⟨h0, h1, h2, h3, h4⟩
  · have := k.2.2 h3
    exact Or.inl ⟨h1, this.trans h2, by rw [this]; exact h3⟩
  · obtain ⟨k1, k2⟩ := k.2.1 h4
    exact Or.inr ⟨h0, h1, k1.trans h2, k2.trans h3, by rw [k1]; exact h4⟩
theorem Er.go {o : Option (α × Zs)} {z : Zs} (h : Er x b e z ρ) (k : St (qS x) b z z → Wp1 o fun _ => St (qS x) b z) : Wp1 o fun _ z' => Er x b e z' ρ :=
  wp_m (k (St.rf h.1.2.1 h.1.1)) fun _ _ q => ⟨h.1.tr q, h.2.1, h.2.2.go q.2.2⟩
theorem Er.go0 {o : Option (α × Zs)} {z : Zs} (h : Er x b e z ρ) (k : St (qS x) b z z → Wp1 o fun _ => St0 (qS x) z) : Wp1 o fun _ z' => Er0 x e z' ρ :=
  wp_m (k (St.rf h.1.2.1 h.1.1)) fun _ _ q => ⟨h.1.2.tr q, h.2.1, h.2.2.go q.2⟩
theorem Er0.go0 {o : Option (α × Zs)} {z : Zs} (h : Er0 x e z ρ) (k : St0 (qS x) z z → Wp1 o fun _ => St0 (qS x) z) : Wp1 o fun _ z' => Er0 x e z' ρ :=
  wp_m (k ⟨h.1.1, Sk.rf⟩) fun _ _ q => ⟨h.1.tr q, h.2.1, h.2.2.go q.2⟩
theorem Er.e0 (h : Er x b e σ ρ) : Er0 x e σ ρ := ⟨h.1.2, h.2⟩
theorem sm_ok {E : Int32 × Int32 → Zs → Zs → Prop} {Q : α → Zs → β → Zs → Prop} {v : α} {a : β} (h : Q v σ a ρ) : SM E (some (v, σ)) (some (.ok a, ρ)) Q := h
theorem sm_m {E : Int32 × Int32 → Zs → Zs → Prop} {o : Option (α × Zs)} {r : Option (Except (Int32 × Int32) β × Zs)} {Q R : α → Zs → β → Zs → Prop} (h : SM E o r Q) (k : ∀ v σ a ρ, Q v σ a ρ → R v σ a ρ) : SM E o r R :=
  wp_m h fun v σ h => wp_m h fun w ρ h => by
    cases w with
    | error e => exact h
    | ok a => exact k _ _ _ _ h
theorem sm_0 {o : Option (α × Zs)} {r : Option (Except (Int32 × Int32) β × Zs)} {Q : α → Zs → β → Zs → Prop} (h : SM (Er x b) o r Q) : SM (Er0 x) o r Q :=
  wp_m h fun v σ h => wp_m h fun w ρ h => by
    cases w with
    | error e => exact Er.e0 h
    | ok a => exact h
theorem sm_b {E : Int32 × Int32 → Zs → Zs → Prop} {o : Option (α × Zs)} {r : Option (Except (Int32 × Int32) β × Zs)} {k : α → Zs → Option (γ × Zs)} {l : β → Zs → Option (Except (Int32 × Int32) δ × Zs)} {Q : α → Zs → β → Zs → Prop} {Q' : γ → Zs → δ → Zs → Prop} {E0 : Int32 × Int32 → Zs → Zs → Prop}
    (h : SM E0 o r Q) (g : ∀ v σ a ρ, Q v σ a ρ → SM E (k v σ) (l a ρ) Q') (c : ∀ v σ e ρ, E0 e σ ρ → Wp1 (k v σ) fun _ σ' => E e σ' ρ) : SM E (bq o k) (bw r l) Q' := by
  obtain ⟨v, σ, e1, h⟩ := wp_ex h
  obtain ⟨w, ρ, e2, h⟩ := wp_ex h
  subst e1 e2
  cases w with
  | error e => exact wp_m (c v σ e ρ h) fun _ _ q => q
  | ok a => exact g v σ a ρ h
/-- a step of the class alone -/
theorem sm_l {E : Int32 × Int32 → Zs → Zs → Prop} {o : Option (α × Zs)} {r : Option (Except (Int32 × Int32) δ × Zs)} {k : α → Zs → Option (γ × Zs)} {Q' : γ → Zs → δ → Zs → Prop} {v : α} {z : Zs} (h : o = some (v, z)) (g : SM E (k v z) r Q') : SM E (bq o k) r Q' := by rw [bq_e h]; exact g
theorem sm_w {E : Int32 × Int32 → Zs → Zs → Prop} {o : Option (α × Zs)} {r : Option (Except (Int32 × Int32) δ × Zs)} {k : α → Zs → Option (γ × Zs)} {Q : α → Zs → Prop} {Q' : γ → Zs → δ → Zs → Prop} (h : Wp1 o Q) (g : ∀ v z, Q v z → SM E (k v z) r Q') : SM E (bq o k) r Q' := by
  obtain ⟨v, z, e1, h⟩ := wp_ex h
  rw [bq_e e1]
  exact g v z h
/-- a step of the law alone -/
theorem sm_r {E : Int32 × Int32 → Zs → Zs → Prop} {o : Option (α × Zs)} {r : Option (β × Zs)} {l : β → Zs → Option (Except (Int32 × Int32) δ × Zs)} {Q' : α → Zs → δ → Zs → Prop} {w : β} {y : Zs} (h : r = some (w, y)) (g : SM E o (l w y) Q') : SM E o (bq r l) Q' := by rw [bq_e h]; exact g
theorem bw_e {r : Option (Except (Int32 × Int32) β × Zs)} {l : β → Zs → Option (Except (Int32 × Int32) δ × Zs)} {w : β} {y : Zs} (h : r = some (.ok w, y)) : bw r l = l w y := by rw [h]; rfl
theorem bw_x {r : Option (Except (Int32 × Int32) β × Zs)} {l : β → Zs → Option (Except (Int32 × Int32) δ × Zs)} {y : Zs} (h : r = some (.error e, y)) : bw r l = some (.error e, y) := by rw [h]; rfl
theorem sm_rw {E : Int32 × Int32 → Zs → Zs → Prop} {o : Option (α × Zs)} {r : Option (Except (Int32 × Int32) β × Zs)} {l : β → Zs → Option (Except (Int32 × Int32) δ × Zs)} {Q' : α → Zs → δ → Zs → Prop} {w : β} {y : Zs} (h : r = some (.ok w, y)) (g : SM E o (l w y) Q') : SM E o (bw r l) Q' := by rw [bw_e h]; exact g
/-- the law throws, the class goes on -/
theorem sm_x {E : Int32 × Int32 → Zs → Zs → Prop} {o : Option (α × Zs)} {Q' : α → Zs → β → Zs → Prop} (h : Wp1 o fun _ σ' => E e σ' ρ) : SM E o (some (.error e, ρ)) Q' := wp_m h fun _ _ q => q
theorem sm_xw {E : Int32 × Int32 → Zs → Zs → Prop} {o : Option (α × Zs)} {r : Option (Except (Int32 × Int32) β × Zs)} {l : β → Zs → Option (Except (Int32 × Int32) δ × Zs)} {Q' : α → Zs → δ → Zs → Prop} (hr : r = some (.error e, ρ)) (h : Wp1 o fun _ σ' => E e σ' ρ) : SM E o (bw r l) Q' := by rw [bw_x hr]; exact sm_x h
-- frames of the law's
theorem LFr.I (h : LFr x ρ) {c q s i : Nat} (hw : wL (qM x) (qG x) c q = true) {v : Int32} : LFr x (sI ρ c q s i v) := by
  intro c' q' hc s' i'
  obtain ⟨h1, h2, h3⟩ := h c' q' hc s' i'
  refine ⟨?_, h2, h3⟩
  rw [zI_sI, if_neg, h1]
  rintro ⟨rfl, rfl, _⟩
  rw [hw] at hc
  cases hc
theorem LFr.J (h : LFr x ρ) {c q s i : Nat} (hw : wL (qM x) (qG x) c q = true) {v : Int64} : LFr x (sJ ρ c q s i v) := by
  intro c' q' hc s' i'
  obtain ⟨h1, h2, h3⟩ := h c' q' hc s' i'
  refine ⟨h1, ?_, h3⟩
  rw [zJ_sJ, if_neg, h2]
  rintro ⟨rfl, rfl, _⟩
  rw [hw] at hc
  cases hc
theorem wl0 {m g c : Nat} (h : [905, 907, 908, 910, 911, 1936, 1937, 1938].contains c = true) : wL m g c 0 = true := by
  have n : decide (c = 785) = false := decide_eq_false (fun e => by rw [e] at h; exact absurd h (by decide))
  unfold wL; rw [h, n]; simp
theorem wlG {m g c : Nat} (h : [768, 781, 1793, 1794, 1795, 1796, 1797, 1798, 1799, 1800, 1801, 1802, 1803, 1804, 1806, 1807, 1808, 1810, 1811].contains c = true) : wL m g c g = true := by
  have n : decide (c = 785) = false := decide_eq_false (fun e => by rw [e] at h; exact absurd h (by decide))
  have h2 : [768, 781, 785, 1793, 1794, 1795, 1796, 1797, 1798, 1799, 1800, 1801, 1802, 1803, 1804, 1806, 1807, 1808, 1810, 1811].contains c = true := by
    simp only [List.contains_cons, List.contains_nil, Bool.or_false, Bool.or_eq_true, beq_iff_eq] at h ⊢
    omega
  unfold wL; rw [h2, n]; simp
theorem wlG5 {m g : Nat} (hm : m = 1) : wL m g 785 g = true := by
  subst hm; unfold wL; simp
theorem wl5 {g q : Nat} : wL 0 g 785 q = false := by
  unfold wL; simp
theorem wln {m g c q : Nat} (h1 : [905, 907, 908, 910, 911, 1936, 1937, 1938].contains c = false) (h2 : [768, 781, 785, 1793, 1794, 1795, 1796, 1797, 1798, 1799, 1800, 1801, 1802, 1803, 1804, 1806, 1807, 1808, 1810, 1811].contains c = false) : wL m g c q = false := by
  unfold wL; rw [h1, h2]; simp
theorem wKn {S c q : Nat} (h1 : [258, 259, 260, 261, 262, 263, 192, 193, 194, 195, 196, 197, 198, 199, 201, 202, 203, 204, 205, 1224].contains c = false) (h2 : [0, 1, 2, 3, 321, 323, 326, 448, 449, 450, 453, 454, 455, 456, 1348, 1349, 1475, 1476, 1481, 1482, 1483].contains c = false) : wK S c q = false := by
  unfold wK; rw [h1, h2]; simp
theorem Cok.m (h : Cok x) (k : LFr x ρ) : zI ρ 906 0 0 0 = nI (qM x) := ((k 906 0 (wln rfl rfl) 0 0).1).trans h.2.2.1
theorem Cok.g (h : Cok x) (k : LFr x ρ) : zR ρ 909 0 0 0 = (qG x, 0) := ((k 909 0 (wln rfl rfl) 0 0).2.2).trans h.2.1
theorem Cok.tk (h : Cok x) {σ0 : Zs} (e0 : σ0 = qC x) (c : CFr (qS x) σ0 σ) (k : LFr x ρ) {j : Nat} (hj : j < qN x) : TKj x σ ρ j := by
  subst e0
  obtain ⟨h1, h2, h3, h4, h5, h6, h7, h8, h9⟩ := h.1.2.2.1 j hj
  refine ⟨h1, h2, ((k 1926 0 (wln rfl rfl) 0 j).1).trans h3, ((k 1927 0 (wln rfl rfl) 0 j).1).trans h4, ((k 1928 0 (wln rfl rfl) 0 j).2.1).trans h5, ((c 1600 0 (wKn rfl rfl) 0 j).1).trans h6, ((c 1601 0 (wKn rfl rfl) 0 j).1).trans h7, fun q => ((c 1602 0 (wKn rfl rfl) 0 j).2.1).trans (h8 q), h9⟩
theorem Cok.n (h : Cok x) (ht : t < qN x) : t ≤ 1500 := by have := h.1.1.2; omega
theorem Cok.nx (h : Cok x) (ht : t < qN x) (hk : qk x t < 202) : t + 1 < qN x := by
  rcases Nat.lt_or_ge (t + 1) (qN x) with q | q
  · exact q
  · have e : t = qN x - 1 := by omega
    have := h.1.2.2.2.2
    rw [← e] at this
    omega
-- kinds
theorem ck_i : ∀ k, k < 204 → vk k = true → ∀ j, j < 204 → vk j = true → ck k = ck j → k = j := by decide +kernel
theorem ck_e {k j : Nat} (hk : vk k = true) (hj : vk j = true) : ck k = ck j ↔ k = j := by
  have hl : ∀ {k}, vk k = true → k < 204 := by
    intro k h
    simp only [vk, Bool.or_eq_true, Bool.and_eq_true, decide_eq_true_eq] at h
    omega
  exact ⟨fun h => ck_i k (hl hk) hk j (hl hj) hj h, fun h => by rw [h]⟩
theorem ck_1 {k : Nat} (hk : vk k = true) : ck k = 1 ↔ k = 203 := ck_e (j := 203) hk rfl
/-- the class's token, the law's: a kind that is asked for -/
theorem PSt.is (h : PSt x t σ ρ) (hc : Cok x) (hs : CFr (qS x) (qC x) σ) (hl : LFr x ρ) (k : Nat) : fX14_is (nI k) ρ = some (if qk x t = k then 1 else 0, ρ) ∨ 2147483648 ≤ k := by
  rcases Nat.lt_or_ge k 2147483648 with hk | hk
  · refine Or.inl ?_
    have ht := hc.n h.1
    have T := hc.tk rfl hs hl h.1
    have hk2 : qk x t < 204 := by
      have := T.1
      simp only [vk, Bool.or_eq_true, Bool.and_eq_true, decide_eq_true_eq] at this
      omega
    unfold fX14_is
    rw [h.2.2.2.2.2.2, if_pos ((n_gi (by omega)).mpr (by omega)), n_cl (by omega), T.2.2.1]
    by_cases q : qk x t = k
    · rw [if_pos (by rw [q]), if_pos q]
    · rw [if_neg (fun z => q ((n_eq (by omega) hk).mp z)), if_neg q]
  · exact Or.inr hk
theorem PSt.k204 (hc : Cok x) (ht : t < qN x) : vk (qk x t) = true ∧ qk x t < 204 := by
  have T := (hc.1.2.2.1 t ht).1
  refine ⟨T, ?_⟩
  simp only [vk, Bool.or_eq_true, Bool.and_eq_true, decide_eq_true_eq] at T
  omega
theorem PSt.kd (h : PSt x t σ ρ) (hc : Cok x) {j : Nat} (hj : vk j = true) : zI σ 260 0 0 0 = ck j ↔ qk x t = j := by
  rw [h.2.2.2.1]
  exact ck_e (PSt.k204 hc h.1).1 hj
theorem PSt.wr (h : PSt x t σ ρ) (hc : Cok x) (hs : CFr (qS x) (qC x) σ) (hl : LFr x ρ) : fX14_wrong ρ = some ((1, nI (qp x t)), ρ) := by
  have ht := hc.n h.1
  have T := hc.tk rfl hs hl h.1
  unfold fX14_wrong
  rw [h.2.2.2.2.2.2, if_pos ((n_gi (by omega)).mpr (by omega)), n_cl (by omega), T.2.2.2.1]
/-- the class fails where the law throws -/
theorem Er.fail (h : PSt x t σ ρ) (hc : Cok x) (hs : St (qS x) b (qC x) σ) (hl : LFr x ρ) : Wp1 (fX4_fail σ) fun _ z => Er x b (1, nI (qp x t)) z ρ := by
  have k := k_fail hs
  unfold fX4_fail at k ⊢
  have hp : qp x t ≤ 1500 := (hc.1.2.2.1 t h.1).2.1
  have q : ¬ (0 : Int32) ≤ zI σ 258 0 0 0 := by rw [h.2.1]; decide
  rw [if_neg q, lt_k, lt_k] at k ⊢
  refine ⟨k, hl, Or.inl ⟨rfl, h.2.2.2.2.1, ?_⟩⟩
  show zI σ 261 0 0 0 ≠ -nI 1
  rw [h.2.2.2.2.1]
  exact fun z => (n_m1 (by omega)).mp z
/-- both take the token -/
def avC (z : Zs) (t : Nat) (k p : Int32) (w : Int64) : Zs := sJ (sI (sI (sI z 259 0 0 0 (nI (t + 1))) 260 0 0 0 k) 261 0 0 0 p) 262 0 0 0 w
theorem PSt.av (h : PSt x t σ ρ) (hc : Cok x) (hs : St (qS x) b (qC x) σ) (hl : LFr x ρ) (hk : qk x t < 202) : ∃ w, fX4_advance σ = some ((), avC σ t (ck (qk x (t + 1))) (nI (qp x (t + 1))) w) ∧ PSt x (t + 1) (avC σ t (ck (qk x (t + 1))) (nI (qp x (t + 1))) w) (sI ρ 905 0 0 0 (nI (t + 1))) ∧ St (qS x) b (qC x) (avC σ t (ck (qk x (t + 1))) (nI (qp x (t + 1))) w) := by
  have ht1 := hc.nx h.1 hk
  have ht := hc.n ht1
  have T := hc.tk rfl hs.2.2.1 hl ht1
  obtain ⟨C, c1, c2, c3⟩ := hc.1.2.1
  have c4 : zI σ 580 0 0 0 = nI C := ((hs.2.2.1 580 0 (wKn rfl rfl) 0 0).1).trans c3
  have g : gi (nI (t + 1)) 1501 := (n_gi (by omega)).mpr (by omega)
  have lt' : ¬ nI C ≤ nI (t + 1) := by rw [n_le (by omega) (by omega)]; omega
  refine ⟨zJ σ 1602 0 0 (t + 1), ?_, ?_, ?_⟩
  · unfold fX4_advance
    have q0 : ¬ (0 : Int32) ≤ zI σ 258 0 0 0 := by rw [h.2.1]; decide
    have q1 : ¬ (nI (t + 1) : Int32) < 0 := m1_lt (by omega)
    have q2 : (nI (t + 1) : Int32) < nI C := (n_lt (by omega) (by omega)).mpr (by omega)
    rw [if_neg q0, h.2.2.1, i_1, n_add, if_neg q1, c4, if_pos q2, lt_k]
    have s1 : zI (sI σ 259 0 0 0 (nI (t + 1))) 259 0 0 0 = nI (t + 1) := rfl
    have s2 : zI (sI σ 259 0 0 0 (nI (t + 1))) 1600 0 0 (t + 1) = ck (qk x (t + 1)) := T.2.2.2.2.2.1
    rw [s1, if_pos g, n_cl (by omega), s2, lt_k]
    have s3 : zI (sI (sI σ 259 0 0 0 (nI (t + 1))) 260 0 0 0 (ck (qk x (t + 1)))) 259 0 0 0 = nI (t + 1) := rfl
    have s4 : zI (sI (sI σ 259 0 0 0 (nI (t + 1))) 260 0 0 0 (ck (qk x (t + 1)))) 1601 0 0 (t + 1) = nI (qp x (t + 1)) := T.2.2.2.2.2.2.1
    rw [s3, if_pos g, n_cl (by omega), s4, lt_k]
    have s5 : zI (sI (sI (sI σ 259 0 0 0 (nI (t + 1))) 260 0 0 0 (ck (qk x (t + 1)))) 261 0 0 0 (nI (qp x (t + 1)))) 259 0 0 0 = nI (t + 1) := rfl
    have s6 : zJ (sI (sI (sI σ 259 0 0 0 (nI (t + 1))) 260 0 0 0 (ck (qk x (t + 1)))) 261 0 0 0 (nI (qp x (t + 1)))) 1602 0 0 (t + 1) = zJ σ 1602 0 0 (t + 1) := rfl
    rw [s5, if_pos g, n_cl (by omega), s6, lt_k]
    rfl
  · exact ⟨ht1, h.2.1, rfl, rfl, rfl, fun q => T.2.2.2.2.2.2.2.1 q, rfl⟩
  · obtain ⟨h0, ⟨g1, g2, g3, g4, g5, g6, g7, g8, g9⟩, g10, g11, g12⟩ := hs
    refine ⟨h0, ⟨g1, g2, g3, g4, g5, g6, Or.inl h.2.1, ⟨qp x (t + 1), by have := T.2.1; omega, rfl⟩, g9⟩, ?_, g11, g12⟩
    exact (((g10.I (w0 rfl)).I (w0 rfl)).I (w0 rfl)).J (w0 rfl)
end SI
