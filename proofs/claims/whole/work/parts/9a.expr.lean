/-! EXPRESSIONS, both: the relation, emitting, taking. E: b, stream of the scope, its width, where the codes begin (class, law), both states at the start of the whole expression -/
abbrev Ex : Type := Nat × Nat × Nat × Nat × Nat × Zs × Zs
def eB (E : Ex) : Nat := E.1
def eA (E : Ex) : Nat := E.2.1
def eW (E : Ex) : Nat := E.2.2.1
def eL (E : Ex) : Nat := E.2.2.2.1
def eZ (E : Ex) : Nat := E.2.2.2.2.1
def eC (E : Ex) : Zs := E.2.2.2.2.2.1
def eR (E : Ex) : Zs := E.2.2.2.2.2.2
def wX (S c q : Nat) : Bool := decide (q = 0) && [258, 259, 260, 261, 262, 263].contains c || decide (q = S) && [326, 1348, 1349].contains c
def wY (g c q : Nat) : Bool := decide (q = 0) && [905, 907, 908].contains c || decide (q = g) && [785, 1810, 1811].contains c
def XFC (S L : Nat) (σs σ : Zs) : Prop := (∀ c q, wX S c q = false → ∀ s i, zI σ c q s i = zI σs c q s i ∧ zJ σ c q s i = zJ σs c q s i ∧ zR σ c q s i = zR σs c q s i) ∧ ∀ j, j < L → zI σ 1348 S 0 j = zI σs 1348 S 0 j ∧ zJ σ 1349 S 0 j = zJ σs 1349 S 0 j
def XFL (g L : Nat) (ρs ρ : Zs) : Prop := (∀ c q, wY g c q = false → ∀ s i, zI ρ c q s i = zI ρs c q s i ∧ zJ ρ c q s i = zJ ρs c q s i ∧ zR ρ c q s i = zR ρs c q s i) ∧ ∀ j, j < L → zI ρ 1810 g 0 j = zI ρs 1810 g 0 j ∧ zJ ρ 1811 g 0 j = zJ ρs 1811 g 0 j
def Rgo (g : Nat) (ρ : Zs) (st : Nat) (l : List Op) : Prop := ∀ j, j < l.length → zI ρ 1810 g 0 (st + j) = opc (l.getD j (0, 0)).1 ∧ ((l.getD j (0, 0)).1 = 155 ∨ zJ ρ 1811 g 0 (st + j) = (l.getD j (0, 0)).2 ∨ ¬ ((l.getD j (0, 0)).1 = 2 ∨ (l.getD j (0, 0)).1 = 3))
def CRx (x : Cx) (E : Ex) (l : List Op) (σ ρ : Zs) : Prop := zI σ 326 (qS x) 0 0 = nI (eL E + l.length) ∧ Cg (qS x) σ (eL E) l ∧ zI ρ 785 (qG x) 0 0 = nI (eZ E + l.length) ∧ Rgo (qG x) ρ (eZ E) l
def Scp (x : Cx) (a W : Nat) (σ ρ : Zs) : Prop := a < 12 ∧ W ≤ 6 ∧ zR σ 198 0 0 0 = (qS x, a) ∧ zI ρ 910 0 0 0 = nI a ∧ zI σ 450 (qS x) a 0 = nI W ∧ zI ρ 1795 (qG x) 0 a = nI W ∧ ∀ c, c < W → zJ σ 1475 (qS x) a c = zJ ρ 1796 (qG x) 0 (6 * a + c)
/-- in the midst of an expression: token t is looked at, e tokens are taken, the depth, the code so far -/
def XM (x : Cx) (E : Ex) (l : List Op) (σ ρ : Zs) : Prop := zI σ 192 0 0 0 = 0 ∧ CRx x E l σ ρ ∧ XFC (qS x) (eL E) (eC E) σ ∧ XFL (qG x) (eZ E) (eR E) ρ
def XP (x : Cx) (E : Ex) (t e dp : Nat) (l : List Op) (σ ρ : Zs) : Prop := St (qS x) (eB E) (qC x) σ ∧ LFr x ρ ∧ PSt x t σ ρ ∧ zI σ 263 0 0 0 = nI e ∧ e ≤ 60 ∧ zI ρ 908 0 0 0 = nI (60 - e) ∧ zI ρ 907 0 0 0 = nI dp ∧ XFL (qG x) (eZ E) (eR E) ρ ∧ (qM x = 1 → XM x E l σ ρ)
def bnd (x : Cx) (E : Ex) (t : Nat) (l : List Op) : Prop := qM x = 1 → eL E + l.length ≤ t ∧ eZ E + l.length ≤ 2 * t
def XQ (x : Cx) (E : Ex) (t e dp : Nat) (l : List Op) : Unit → Zs → Unit → Zs → Prop := fun _ σ _ ρ => ∃ t' e' l2, XP x E t' e' dp (l ++ l2) σ ρ ∧ e < e' ∧ t' + e = t + e' ∧ (qM x = 1 → l2.length ≤ e' - e ∧ ∀ h, hg (eW E) h l2 (h + 1))
def FS (x : Cx) (E : Ex) (dp : Nat) (cF : Zs → Option (Unit × Zs)) (lF : Zs → Option (Except (Int32 × Int32) Unit × Zs)) : Prop := ∀ t e l σ ρ, XP x E t e dp l σ ρ → bnd x E t l → SM (Er x (eB E)) (cF σ) (lF ρ) (XQ x E t e dp l)
def FK (x : Cx) (E : Ex) (cF : Zs → Option (Unit × Zs)) : Prop := ∀ σ0 z, St (qS x) (eB E) σ0 z → Wp1 (cF z) fun _ => St (qS x) (eB E) σ0
theorem x_wX0 {S c : Nat} (h : [258, 259, 260, 261, 262, 263].contains c = true) : wX S c 0 = true := by unfold wX; rw [h]; rfl
theorem x_wXS {S c : Nat} (h : [326, 1348, 1349].contains c = true) : wX S c S = true := by unfold wX; rw [h]; simp
theorem x_wY0 {g c : Nat} (h : [905, 907, 908].contains c = true) : wY g c 0 = true := by unfold wY; rw [h]; rfl
theorem x_wYG {g c : Nat} (h : [785, 1810, 1811].contains c = true) : wY g c g = true := by unfold wY; rw [h]; simp
theorem x_wXn {S c q : Nat} (h : [258, 259, 260, 261, 262, 263].contains c = false) (h2 : [326, 1348, 1349].contains c = false) : wX S c q = false := by unfold wX; rw [h, h2]; simp
theorem x_wYn {g c q : Nat} (h : [905, 907, 908].contains c = false) (h2 : [785, 1810, 1811].contains c = false) : wY g c q = false := by unfold wY; rw [h, h2]; simp
section XE
variable {x : Cx} {E : Ex} {t e dp : Nat} {l : List Op} {σ ρ σs ρs z : Zs}
theorem XFC.I {S L c q s i : Nat} {v : Int32} (h : XFC S L σs z) (hw : wX S c q = true) (hn : c = 1348 → L ≤ i) : XFC S L σs (sI z c q s i v) := by
  refine ⟨fun c' q' hc s' i' => ?_, fun j hj => ?_⟩
  · obtain ⟨h1, h2, h3⟩ := h.1 c' q' hc s' i'
    refine ⟨?_, h2, h3⟩
    rw [zI_sI, if_neg, h1]
    rintro ⟨rfl, rfl, _⟩
    rw [hw] at hc
    cases hc
  · obtain ⟨h1, h2⟩ := h.2 j hj
    refine ⟨?_, h2⟩
    rw [zI_sI, if_neg, h1]
    rintro ⟨h3, _, _, h4⟩
    have := hn h3.symm
    omega
theorem XFC.J {S L c q s i : Nat} {v : Int64} (h : XFC S L σs z) (hw : wX S c q = true) (hn : c = 1349 → L ≤ i) : XFC S L σs (sJ z c q s i v) := by
  refine ⟨fun c' q' hc s' i' => ?_, fun j hj => ?_⟩
  · obtain ⟨h1, h2, h3⟩ := h.1 c' q' hc s' i'
    refine ⟨h1, ?_, h3⟩
    rw [zJ_sJ, if_neg, h2]
    rintro ⟨rfl, rfl, _⟩
    rw [hw] at hc
    cases hc
  · obtain ⟨h1, h2⟩ := h.2 j hj
    refine ⟨h1, ?_⟩
    rw [zJ_sJ, if_neg, h2]
    rintro ⟨h3, _, _, h4⟩
    have := hn h3.symm
    omega
theorem XFL.I {g L c q s i : Nat} {v : Int32} (h : XFL g L ρs z) (hw : wY g c q = true) (hn : c = 1810 → L ≤ i) : XFL g L ρs (sI z c q s i v) := by
  refine ⟨fun c' q' hc s' i' => ?_, fun j hj => ?_⟩
  · obtain ⟨h1, h2, h3⟩ := h.1 c' q' hc s' i'
    refine ⟨?_, h2, h3⟩
    rw [zI_sI, if_neg, h1]
    rintro ⟨rfl, rfl, _⟩
    rw [hw] at hc
    cases hc
  · obtain ⟨h1, h2⟩ := h.2 j hj
    refine ⟨?_, h2⟩
    rw [zI_sI, if_neg, h1]
    rintro ⟨h3, _, _, h4⟩
    have := hn h3.symm
    omega
theorem XFL.J {g L c q s i : Nat} {v : Int64} (h : XFL g L ρs z) (hw : wY g c q = true) (hn : c = 1811 → L ≤ i) : XFL g L ρs (sJ z c q s i v) := by
  refine ⟨fun c' q' hc s' i' => ?_, fun j hj => ?_⟩
  · obtain ⟨h1, h2, h3⟩ := h.1 c' q' hc s' i'
    refine ⟨h1, ?_, h3⟩
    rw [zJ_sJ, if_neg, h2]
    rintro ⟨rfl, rfl, _⟩
    rw [hw] at hc
    cases hc
  · obtain ⟨h1, h2⟩ := h.2 j hj
    refine ⟨h1, ?_⟩
    rw [zJ_sJ, if_neg, h2]
    rintro ⟨h3, _, _, h4⟩
    have := hn h3.symm
    omega
-- emitting
def emC (z : Zs) (S n : Nat) (c : Int32) (v : Int64) : Zs := sI (sJ (sI z 1348 S 0 n c) 1349 S 0 n v) 326 S 0 0 (nI (n + 1))
def emR (z : Zs) (g n : Nat) (c : Int32) (v : Int64) : Zs := sI (sJ (sI z 1810 g 0 n c) 1811 g 0 n v) 785 g 0 0 (nI (n + 1))
theorem em_C {S n : Nat} {c : Int32} {v : Int64} (h : zI z 326 S 0 0 = nI n) (hn : n < 1500) : fX5_emit S c v z = some ((), emC z S n c v) := by
  unfold fX5_emit
  have g : gi (nI n) 1500 := (n_gi (by omega)).mpr hn
  have f1 : ∀ v, zI (sI z 1348 S 0 n v) 326 S 0 0 = nI n := fun _ => h
  have f2 : ∀ v u, zI (sJ (sI z 1348 S 0 n v) 1349 S 0 n u) 326 S 0 0 = nI n := fun _ _ => h
  rw [h, i_1500, if_neg (fun z => by have := (n_le (by omega) (by omega)).mp z; omega), if_pos g, lt_k, n_cl (by omega), f1, if_pos g, lt_k, n_cl (by omega), f2, lt_k, i_1, n_add]
  rfl
theorem em_L {g n : Nat} {c : Int32} {v : Int64} (hm : zI z 906 0 0 0 = nI 1) (hg : zR z 909 0 0 0 = (g, 0)) (h : zI z 785 g 0 0 = nI n) (hn : n < 3000) : fX14_emit c v z = some ((), emR z g n c v) := by
  unfold fX14_emit
  have gg : gi (nI n) 3000 := (n_gi (by omega)).mpr hn
  have r2 : (zR z 909 0 0 0).2 = 0 := by rw [hg]
  have r1 : (zR z 909 0 0 0).1 = g := by rw [hg]
  have q2 : ∀ v, (zR (sI z 1810 g 0 n v) 909 0 0 0).2 = 0 := fun _ => r2
  have q1 : ∀ v, (zR (sI z 1810 g 0 n v) 909 0 0 0).1 = g := fun _ => r1
  have s2 : ∀ v u, (zR (sJ (sI z 1810 g 0 n v) 1811 g 0 n u) 909 0 0 0).2 = 0 := fun _ _ => r2
  have s1 : ∀ v u, (zR (sJ (sI z 1810 g 0 n v) 1811 g 0 n u) 909 0 0 0).1 = g := fun _ _ => r1
  have f1 : ∀ v, zI (sI z 1810 g 0 n v) 785 g 0 0 = nI n := fun _ => h
  have f2 : ∀ v u, zI (sJ (sI z 1810 g 0 n v) 1811 g 0 n u) 785 g 0 0 = nI n := fun _ _ => h
  rw [hm, if_neg (by decide), if_pos r2, if_pos r2, r1, h, if_pos gg, lt_k, n_cl (by omega), if_pos (q2 _), if_pos (q2 _), q1, f1, if_pos gg, lt_k, n_cl (by omega), if_pos (s2 _ _), lt_k, s1, f2, i_1, n_add]
  rfl
theorem getD_app {α : Type} (l : List α) (a d : α) (j : Nat) : (l ++ [a]).getD j d = if j < l.length then l.getD j d else if j = l.length then a else d := by
  rw [List.getD_eq_getElem?_getD, List.getD_eq_getElem?_getD, List.getElem?_append]
  by_cases q : j < l.length
  · rw [if_pos q, if_pos q]
  · rw [if_neg q, if_neg q]
    by_cases q2 : j = l.length
    · rw [if_pos q2, q2, Nat.sub_self]; rfl
    · rw [if_neg q2]
      obtain ⟨i, hi⟩ : ∃ i, j - l.length = i + 1 := ⟨j - l.length - 1, by omega⟩
      rw [hi]; rfl
theorem Cg.em {S a : Nat} {c : Int32} {v : Int64} (h : Cg S z a l) : Cg S (emC z S (a + l.length) c v) a (l ++ [(c, v)]) := by
  intro j hj
  rw [List.length_append, List.length_singleton] at hj
  rw [getD_app]
  have e1 : zI (emC z S (a + l.length) c v) 1348 S 0 (a + j) = if j = l.length then c else zI z 1348 S 0 (a + j) := by
    show zI (sI z 1348 S 0 (a + l.length) c) 1348 S 0 (a + j) = _
    rw [zI_sI]
    by_cases q : j = l.length
    · rw [if_pos ⟨rfl, rfl, rfl, by omega⟩, if_pos q]
    · rw [if_neg (fun z => q (by have := z.2.2.2; omega)), if_neg q]
  have e2 : zJ (emC z S (a + l.length) c v) 1349 S 0 (a + j) = if j = l.length then v else zJ z 1349 S 0 (a + j) := by
    show zJ (sJ (sI z 1348 S 0 (a + l.length) c) 1349 S 0 (a + l.length) v) 1349 S 0 (a + j) = _
    rw [zJ_sJ]
    by_cases q : j = l.length
    · rw [if_pos ⟨rfl, rfl, rfl, by omega⟩, if_pos q]
    · rw [if_neg (fun z => q (by have := z.2.2.2; omega)), if_neg q]; rfl
  rw [e1, e2]
  by_cases q : j = l.length
  · rw [if_pos q, if_pos q, if_neg (by omega), if_pos q]; exact ⟨rfl, rfl⟩
  · simp only [if_neg q, if_pos (show j < l.length by omega)]; exact h j (by omega)
theorem Rgo.em {g a : Nat} {c c2 : Int32} {v v2 : Int64} (h : Rgo g z a l) (hop : c2 = opc c ∧ (c = 155 ∨ v2 = v ∨ ¬ (c = 2 ∨ c = 3))) : Rgo g (emR z g (a + l.length) c2 v2) a (l ++ [(c, v)]) := by
  intro j hj
  rw [List.length_append, List.length_singleton] at hj
  rw [getD_app]
  have e1 : zI (emR z g (a + l.length) c2 v2) 1810 g 0 (a + j) = if j = l.length then c2 else zI z 1810 g 0 (a + j) := by
    show zI (sI z 1810 g 0 (a + l.length) c2) 1810 g 0 (a + j) = _
    rw [zI_sI]
    by_cases q : j = l.length
    · rw [if_pos ⟨rfl, rfl, rfl, by omega⟩, if_pos q]
    · rw [if_neg (fun z => q (by have := z.2.2.2; omega)), if_neg q]
  have e2 : zJ (emR z g (a + l.length) c2 v2) 1811 g 0 (a + j) = if j = l.length then v2 else zJ z 1811 g 0 (a + j) := by
    show zJ (sJ (sI z 1810 g 0 (a + l.length) c2) 1811 g 0 (a + l.length) v2) 1811 g 0 (a + j) = _
    rw [zJ_sJ]
    by_cases q : j = l.length
    · rw [if_pos ⟨rfl, rfl, rfl, by omega⟩, if_pos q]
    · rw [if_neg (fun z => q (by have := z.2.2.2; omega)), if_neg q]; rfl
  rw [e1, e2]
  by_cases q : j = l.length
  · rw [if_pos q, if_pos q, if_neg (by omega), if_pos q]; exact ⟨hop.1, hop.2⟩
  · simp only [if_neg q, if_pos (show j < l.length by omega)]; exact h j (by omega)
/-- the parser's cells are as before -/
theorem PSt.mf (h : PSt x t σ ρ) {σ' : Zs} (k : MF σ σ') : PSt x t σ' ρ :=
  ⟨h.1, ((k 258 rfl 0 0 0).1).trans h.2.1, ((k 259 rfl 0 0 0).1).trans h.2.2.1, ((k 260 rfl 0 0 0).1).trans h.2.2.2.1, ((k 261 rfl 0 0 0).1).trans h.2.2.2.2.1, fun q => ((k 262 rfl 0 0 0).2).trans (h.2.2.2.2.2.1 q), h.2.2.2.2.2.2⟩
theorem m01 (hc : Cok x) : qM x = 0 ∨ qM x = 1 := by have := hc.2.2.2; omega
theorem x_emit (hc : Cok x) (h : XP x E t e dp l σ ρ) (hcap : qM x = 1 → eL E + l.length < 1500 ∧ eZ E + l.length < 3000) {c c2 : Int32} {v v2 : Int64} (hop : c2 = opc c ∧ (c = 155 ∨ v2 = v ∨ ¬ (c = 2 ∨ c = 3))) : ∃ σ' ρ', fX3_emit c v σ = some ((), σ') ∧ fX14_emit c2 v2 ρ = some ((), ρ') ∧ XP x E t e dp (l ++ [(c, v)]) σ' ρ' := by
  obtain ⟨h1, h2, h3, h4, h5, h6, h7, h8⟩ := h
  rcases m01 hc with m | m
  · obtain ⟨⟨⟩, σ', e1, k1, k2⟩ := wp_ex (wp_an (k_emit (x := c) (w := v) h1) (mf_X3_emit MF.rf))
    refine ⟨σ', ρ, e1, ?_, k1, h2, h3.mf k2, ((k2 263 rfl 0 0 0).1).trans h4, h5, h6, h7, h8.1, fun q => by omega⟩
    unfold fX14_emit
    rw [hc.m h2, m, if_pos (by rfl)]
  · obtain ⟨g1, ⟨g2, g3, g4, g5⟩, g6, g7⟩ := h8.2 m
    obtain ⟨q1, q2⟩ := hcap m
    have hem : fX3_emit c v σ = some ((), emC σ (qS x) (eL E + l.length) c v) := by
      unfold fX3_emit
      rw [if_pos g1, h1.s4, bq_e (em_C g2 q1)]
    have hst : St (qS x) (eB E) (qC x) (emC σ (qS x) (eL E + l.length) c v) := ((h1.I (wS rfl) rfl).J (wS rfl)).w326 (by omega)
    have hmr : fX14_emit c2 v2 ρ = some ((), emR ρ (qG x) (eZ E + l.length) c2 v2) := em_L (by rw [hc.m h2, m]) (hc.g h2) g4 q2
    refine ⟨_, _, hem, hmr, hst, ((h2.I (wlG rfl)).J (wlG rfl)).I (wlG5 m), h3, h4, h5, h6, h7, ((g7.I (x_wYG rfl) (fun _ => Nat.le_add_right _ _)).J (x_wYG rfl) (fun _ => Nat.le_add_right _ _)).I (x_wYG rfl) (fun z => by cases z), fun _ => ⟨g1, ⟨?_, g3.em, ?_, g5.em hop⟩, ?_, ?_⟩⟩
    · rw [List.length_append, List.length_singleton]
      unfold emC
      rw [zI_sI, if_pos ⟨rfl, rfl, rfl, rfl⟩, Nat.add_assoc]
    · rw [List.length_append, List.length_singleton]
      unfold emR
      rw [zI_sI, if_pos ⟨rfl, rfl, rfl, rfl⟩, Nat.add_assoc]
    · exact ((g6.I (x_wXS rfl) (fun _ => by omega)).J (x_wXS rfl) (fun _ => by omega)).I (x_wXS rfl) (fun z => by omega)
    · exact ((g7.I (x_wYG rfl) (fun _ => by omega)).J (x_wYG rfl) (fun _ => by omega)).I (x_wYG rfl) (fun z => by omega)
-- taking
def tkR (ρ : Zs) (e t : Nat) : Zs := sI (sI ρ 908 0 0 0 (nI (60 - (e + 1)))) 905 0 0 0 (nI (t + 1))
theorem x_lt (h : XP x E t e dp l σ ρ) (he : e < 60) : fX14_take ρ = some (.ok (), tkR ρ e t) := by
  obtain ⟨h1, h2, h3, h4, h5, h6, h7, h8⟩ := h
  unfold fX14_take
  have f : ∀ v, zI (sI ρ 908 0 0 0 v) 905 0 0 0 = nI t := fun _ => h3.2.2.2.2.2.2
  have ht := h3.1
  have e1 : (60 - e) - 1 = 60 - (e + 1) := by omega
  rw [h6, if_neg (show ¬ (nI (60 - e) : Int32) = 0 by rw [i_0, n_eq (by omega) (by omega)]; omega), if_neg (show ¬ (nI (60 - e) : Int32) ≤ 0 by rw [i_0, n_le (by omega) (by omega)]; omega), lt_k, f, lt_k, i_1, n_sub (by omega), n_add, e1]
  rfl
theorem x_lw (hc : Cok x) (h : XP x E t e dp l σ ρ) (he : e = 60) : fX14_take ρ = some (.error (1, nI (qp x t)), ρ) := by
  obtain ⟨h1, h2, h3, h4, h5, h6, h7, h8⟩ := h
  unfold fX14_take
  subst he
  rw [h6, if_pos (show (nI (60 - 60) : Int32) = 0 from rfl), bq_e (h3.wr hc h1.2.2.1 h2)]
theorem x_tk1 (hc : Cok x) (h : XP x E t e dp l σ ρ) (hk : qk x t < 202) {k y : Int32} (hk2 : ck (qk x t) = k) (he : e < 60) (hy : y ≤ 8) : ∃ σ', fX4_takeInExpression k y σ = some (1, σ') ∧ XP x E (t + 1) (e + 1) dp l σ' (tkR ρ e t) := by
  obtain ⟨h1, h2, h3, h4, h5, h6, h7, h8⟩ := h
  have h1' : St (qS x) (eB E) (qC x) (sI σ 263 0 0 0 (nI (e + 1))) := h1.I (w0 rfl) rfl
  have h3' : PSt x t (sI σ 263 0 0 0 (nI (e + 1))) ρ := h3
  obtain ⟨w, a1, a2, a3⟩ := h3'.av hc h1' h2 hk
  refine ⟨_, ?_, a3, (h2.I (wl0 rfl)).I (wl0 rfl), ⟨a2.1, a2.2.1, a2.2.2.1, a2.2.2.2.1, a2.2.2.2.2.1, a2.2.2.2.2.2.1, rfl⟩, rfl, by omega, rfl, h7, (h8.1.I (x_wY0 rfl) (fun z => by cases z)).I (x_wY0 rfl) (fun z => by cases z), fun m => ?_⟩
  · unfold fX4_takeInExpression
    rw [h3.2.2.2.1, if_pos hk2, h4, i_60, if_neg (fun z => by have := (n_le (by omega) (by omega)).mp z; omega), if_pos hy, lt_k, i_1, n_add, bq_e a1]
  · obtain ⟨g1, ⟨g2, g3, g4, g5⟩, g6, g7⟩ := h8.2 m
    refine ⟨g1, ⟨g2, g3, g4, g5⟩, ?_, ?_⟩
    · exact ((((g6.I (x_wX0 rfl) (fun z => by cases z)).I (x_wX0 rfl) (fun z => by cases z)).I (x_wX0 rfl) (fun z => by cases z)).I (x_wX0 rfl) (fun z => by cases z)).J (x_wX0 rfl) (fun z => by cases z)
    · exact (g7.I (x_wY0 rfl) (fun z => by cases z)).I (x_wY0 rfl) (fun z => by cases z)
theorem x_tk0 (hc : Cok x) (h : XP x E t e dp l σ ρ) {k y : Int32} (hq : ¬ ck (qk x t) = k ∨ e = 60 ∨ ¬ y ≤ 8) : ∃ z, fX4_takeInExpression k y σ = some (0, z) ∧ Er x (eB E) (1, nI (qp x t)) z ρ := by
  obtain ⟨h1, h2, h3, h4, h5, h6, h7, h8⟩ := h
  obtain ⟨⟨⟩, z, e1, e2⟩ := wp_ex (Er.fail h3 hc h1 h2)
  refine ⟨z, ?_, e2⟩
  unfold fX4_takeInExpression
  rw [h3.2.2.2.1, h4, i_60]
  by_cases q1 : ck (qk x t) = k
  · rw [if_pos q1]
    by_cases q2 : e = 60
    · rw [if_pos ((n_le (by omega) (by omega)).mpr (by omega)), bq_e e1]
    · have q3 : ¬ y ≤ 8 := by
        rcases hq with q | q | q
        · exact absurd q1 q
        · exact absurd q q2
        · exact q
      rw [if_neg (fun z => by have := (n_le (by omega) (by omega)).mp z; omega), if_neg q3, bq_e e1]
  · rw [if_neg q1, bq_e e1]
/-- a token that is there -/
theorem x_take (hc : Cok x) (h : XP x E t e dp l σ ρ) (hk : qk x t < 202) {k y : Int32} (hk2 : ck (qk x t) = k) (hy : y ≤ 8) : SM (Er x (eB E)) (fX4_takeInExpression k y σ) (fX14_take ρ) fun v σ' _ ρ' => v = 1 ∧ XP x E (t + 1) (e + 1) dp l σ' ρ' := by
  by_cases q : e < 60
  · obtain ⟨σ', a1, a2⟩ := x_tk1 hc h hk hk2 q hy
    rw [a1, x_lt h q]
    exact sm_ok ⟨rfl, a2⟩
  · have e60 : e = 60 := by have := h.2.2.2.2.1; omega
    obtain ⟨z, a1, a2⟩ := x_tk0 hc h (k := k) (y := y) (Or.inr (Or.inl e60))
    rw [a1, x_lw hc h e60]
    exact sm_x a2
theorem XP.is (h : XP x E t e dp l σ ρ) (hc : Cok x) (k : Nat) (hk : k < 2147483648) : fX14_is (nI k) ρ = some (if qk x t = k then 1 else 0, ρ) := by
  rcases h.2.2.1.is hc h.1.2.2.1 h.2.1 k with q | q
  · exact q
  · omega
/-- a token that may be there -/
theorem x_take_ (hc : Cok x) (h : XP x E t e dp l σ ρ) {K : Nat} (hK : vk K = true) (hK2 : K < 202) {k y : Int32} (hk2 : ck K = k) (hy : y ≤ 8) : SM (Er x (eB E)) (fX4_takeInExpression k y σ) (fX14_take_ (nI K) ρ) fun v σ' _ ρ' => v = 1 ∧ XP x E (t + 1) (e + 1) dp l σ' ρ' := by
  unfold fX14_take_
  by_cases q : qk x t = K
  · rw [bq_e (h.is hc K (by omega)), if_pos q, if10]
    have := x_take hc h (by omega) (show ck (qk x t) = k by rw [q]; exact hk2) hy
    refine wp_m this fun v σ' h1 => ?_
    obtain ⟨w, ρ', e1, h1⟩ := wp_ex h1
    cases w with
    | error er => rw [bw_x e1]; exact h1
    | ok u => rw [bw_e e1]; exact h1
  · rw [bq_e (h.is hc K (by omega)), if_neg q, if00, bq_e (h.2.2.1.wr hc h.1.2.2.1 h.2.1)]
    have hv := PSt.k204 hc h.2.2.1.1
    obtain ⟨z, a1, a2⟩ := x_tk0 hc h (k := k) (y := y) (Or.inl (fun z => q ((ck_e hv.1 hK).mp (z.trans hk2.symm))))
    rw [a1]
    exact sm_x a2
end XE
