/-! THE CLASS'S MEANING LEAVES THE PARSER'S CELLS ALONE -/
def PP {α : Type} (o : Option (α × Zs)) (Q : Zs → Prop) : Prop := ∀ v z, o = some (v, z) → Q z
def mfc (c : Nat) : Bool := [258, 259, 260, 261, 262, 263].contains c
def MF (z0 z : Zs) : Prop := ∀ c, mfc c = true → ∀ q s i, zI z c q s i = zI z0 c q s i ∧ zJ z c q s i = zJ z0 c q s i
section MFS
variable {α β : Type} {z0 z : Zs}
theorem pp_none {Q : Zs → Prop} : PP (none : Option (α × Zs)) Q := fun v z h => by cases h
theorem pp_some {Q : Zs → Prop} {v : α} (h : Q z) : PP (some (v, z)) Q := fun v z h => by cases h; assumption
theorem pp_if {c : Prop} [Decidable c] {a b : Option (α × Zs)} {Q : Zs → Prop} (h : PP a Q) (k : PP b Q) : PP (if c then a else b) Q := by
  by_cases q : c
  · rw [if_pos q]; exact h
  · rw [if_neg q]; exact k
theorem pp_b {o : Option (α × Zs)} {k : α → Zs → Option (β × Zs)} {Q : Zs → Prop} (h : PP o (MF z0)) (g : ∀ v z, MF z0 z → PP (k v z) Q) : PP (bq o k) Q := by
  rcases o with _ | ⟨v, z⟩
  · exact pp_none
  · exact g v z (h v z rfl)
theorem MF.I (h : MF z0 z) {c q s i : Nat} {v : Int32} (hc : mfc c = false) : MF z0 (sI z c q s i v) := by
  intro c' hc' q' s' i'
  obtain ⟨h1, h2⟩ := h c' hc' q' s' i'
  refine ⟨?_, h2⟩
  rw [zI_sI, if_neg, h1]
  rintro ⟨rfl, _⟩
  rw [hc] at hc'
  cases hc'
theorem MF.J (h : MF z0 z) {c q s i : Nat} {v : Int64} (hc : mfc c = false) : MF z0 (sJ z c q s i v) := by
  intro c' hc' q' s' i'
  obtain ⟨h1, h2⟩ := h c' hc' q' s' i'
  refine ⟨h1, ?_⟩
  rw [zJ_sJ, if_neg, h2]
  rintro ⟨rfl, _⟩
  rw [hc] at hc'
  cases hc'
theorem MF.R (h : MF z0 z) {c q s i : Nat} {v : Nat × Nat} : MF z0 (sR z c q s i v) := h
theorem MF.rf : MF z z := fun _ _ _ _ _ => ⟨rfl, rfl⟩
theorem MF.tr {z1 : Zs} (h : MF z0 z1) (k : MF z1 z) : MF z0 z := fun c hc q s i => ⟨((k c hc q s i).1).trans (h c hc q s i).1, ((k c hc q s i).2).trans (h c hc q s i).2⟩
theorem pp_I {c q s i : Nat} {v : Int32} {k : Zs → Option (α × Zs)} {Q : Zs → Prop} (h : MF z0 z) (hc : mfc c = false) (g : ∀ z, MF z0 z → PP (k z) Q) : PP (lt (sI z c q s i v) k) Q := by rw [lt_k]; exact g _ (h.I hc)
theorem pp_J {c q s i : Nat} {v : Int64} {k : Zs → Option (α × Zs)} {Q : Zs → Prop} (h : MF z0 z) (hc : mfc c = false) (g : ∀ z, MF z0 z → PP (k z) Q) : PP (lt (sJ z c q s i v) k) Q := by rw [lt_k]; exact g _ (h.J hc)
theorem pp_R {c q s i : Nat} {v : Nat × Nat} {k : Zs → Option (α × Zs)} {Q : Zs → Prop} (h : MF z0 z) (g : ∀ z, MF z0 z → PP (k z) Q) : PP (lt (sR z c q s i v) k) Q := by rw [lt_k]; exact g _ (h.R (c := c) (q := q) (s := s) (i := i) (v := v))
theorem wp_an {o : Option (α × Zs)} {Q : α → Zs → Prop} {R : Zs → Prop} (h : Wp1 o Q) (k : PP o R) : Wp1 o fun v z => Q v z ∧ R z := by
  rcases o with _ | ⟨v, z⟩
  · exact h
  · exact ⟨h, k v z rfl⟩

theorem mf_X3_report {x1 : Int32} {x2 : Int32} (h : MF z0 z) : PP (fX3_report x1 x2 z) (MF z0) := by
  unfold fX3_report
  repeat (first | with_reducible exact pp_none | with_reducible exact pp_some (by assumption) | with_reducible refine pp_if ?_ ?_ | with_reducible refine pp_I (by assumption) (by decide) (fun _ _ => ?_) | with_reducible refine pp_J (by assumption) (by decide) (fun _ _ => ?_) | with_reducible refine pp_R (by assumption) (fun _ _ => ?_))
theorem mf_X7_setPart {p : Nat} {s : Nat} {x1 : Int32} {x2 : Int32} (h : MF z0 z) : PP (fX7_setPart p s x1 x2 z) (MF z0) := by
  unfold fX7_setPart
  repeat (first | with_reducible exact pp_none | with_reducible exact pp_some (by assumption) | with_reducible refine pp_if ?_ ?_ | with_reducible refine pp_I (by assumption) (by decide) (fun _ _ => ?_) | with_reducible refine pp_J (by assumption) (by decide) (fun _ _ => ?_) | with_reducible refine pp_R (by assumption) (fun _ _ => ?_))
theorem mf_X7_setCode {p : Nat} {s : Nat} {x1 : Int32} {x2 : Int32} {x3 : Int32} (h : MF z0 z) : PP (fX7_setCode p s x1 x2 x3 z) (MF z0) := by
  unfold fX7_setCode
  repeat (first | with_reducible exact pp_none | with_reducible exact pp_some (by assumption) | with_reducible refine pp_if ?_ ?_ | with_reducible refine pp_I (by assumption) (by decide) (fun _ _ => ?_) | with_reducible refine pp_J (by assumption) (by decide) (fun _ _ => ?_) | with_reducible refine pp_R (by assumption) (fun _ _ => ?_))
theorem mf_X7_columnNamed_2_l {p : Nat} {s : Nat} {x1 : Int64} : ∀ (n : Nat) (y100 : Int32) (z : Zs), MF z0 z → PP (fX7_columnNamed_2 p s x1 n y100 z) (MF z0) := by
  intro n
  induction n with
  | zero => intros; exact pp_none
  | succ n ih =>
    intro y100 z h
    rw [fX7_columnNamed_2]
    repeat (first | with_reducible exact pp_none | with_reducible exact pp_some (by assumption) | with_reducible refine pp_if ?_ ?_ | with_reducible refine pp_I (by assumption) (by decide) (fun _ _ => ?_) | with_reducible refine pp_J (by assumption) (by decide) (fun _ _ => ?_) | with_reducible refine pp_R (by assumption) (fun _ _ => ?_) | with_reducible exact ih _ _ (by assumption) | with_reducible refine pp_b (ih _ _ (by assumption)) (fun _ _ _ => ?_))
theorem mf_X7_columnNamed_2 {p : Nat} {s : Nat} {x1 : Int64} (n : Nat) (y100 : Int32) (h : MF z0 z) : PP (fX7_columnNamed_2 p s x1 n y100 z) (MF z0) := mf_X7_columnNamed_2_l n y100 z h
theorem mf_X7_columnNamed {p : Nat} {s : Nat} {x1 : Int64} (h : MF z0 z) : PP (fX7_columnNamed p s x1 z) (MF z0) := by
  unfold fX7_columnNamed
  repeat (first | with_reducible exact pp_none | with_reducible exact pp_some (by assumption) | with_reducible refine pp_if ?_ ?_ | with_reducible refine pp_I (by assumption) (by decide) (fun _ _ => ?_) | with_reducible refine pp_J (by assumption) (by decide) (fun _ _ => ?_) | with_reducible refine pp_R (by assumption) (fun _ _ => ?_) | with_reducible exact mf_X7_columnNamed_2 _ _ (by assumption) | with_reducible refine pp_b (mf_X7_columnNamed_2 _ _ (by assumption)) (fun _ _ _ => ?_))
theorem mf_X5_streamNamed_2_l {p : Nat} {x1 : Int64} : ∀ (n : Nat) (y100 : Int32) (z : Zs), MF z0 z → PP (fX5_streamNamed_2 p x1 n y100 z) (MF z0) := by
  intro n
  induction n with
  | zero => intros; exact pp_none
  | succ n ih =>
    intro y100 z h
    rw [fX5_streamNamed_2]
    repeat (first | with_reducible exact pp_none | with_reducible exact pp_some (by assumption) | with_reducible refine pp_if ?_ ?_ | with_reducible refine pp_I (by assumption) (by decide) (fun _ _ => ?_) | with_reducible refine pp_J (by assumption) (by decide) (fun _ _ => ?_) | with_reducible refine pp_R (by assumption) (fun _ _ => ?_) | with_reducible exact ih _ _ (by assumption) | with_reducible refine pp_b (ih _ _ (by assumption)) (fun _ _ _ => ?_))
theorem mf_X5_streamNamed_2 {p : Nat} {x1 : Int64} (n : Nat) (y100 : Int32) (h : MF z0 z) : PP (fX5_streamNamed_2 p x1 n y100 z) (MF z0) := mf_X5_streamNamed_2_l n y100 z h
theorem mf_X5_streamNamed {p : Nat} {x1 : Int64} (h : MF z0 z) : PP (fX5_streamNamed p x1 z) (MF z0) := by
  unfold fX5_streamNamed
  repeat (first | with_reducible exact pp_none | with_reducible exact pp_some (by assumption) | with_reducible refine pp_if ?_ ?_ | with_reducible refine pp_I (by assumption) (by decide) (fun _ _ => ?_) | with_reducible refine pp_J (by assumption) (by decide) (fun _ _ => ?_) | with_reducible refine pp_R (by assumption) (fun _ _ => ?_) | with_reducible exact mf_X5_streamNamed_2 _ _ (by assumption) | with_reducible refine pp_b (mf_X5_streamNamed_2 _ _ (by assumption)) (fun _ _ _ => ?_))
theorem mf_X7_columnAt {p : Nat} {s : Nat} {x1 : Int32} (h : MF z0 z) : PP (fX7_columnAt p s x1 z) (MF z0) := by
  unfold fX7_columnAt
  repeat (first | with_reducible exact pp_none | with_reducible exact pp_some (by assumption) | with_reducible refine pp_if ?_ ?_ | with_reducible refine pp_I (by assumption) (by decide) (fun _ _ => ?_) | with_reducible refine pp_J (by assumption) (by decide) (fun _ _ => ?_) | with_reducible refine pp_R (by assumption) (fun _ _ => ?_))
theorem mf_X7_hasColumnsOf_15_l {p : Nat} {s : Nat} {p1 : Nat} {s1 : Nat} : ∀ (n : Nat) (y100 : Int32) (z : Zs), MF z0 z → PP (fX7_hasColumnsOf_15 p s p1 s1 n y100 z) (MF z0) := by
  intro n
  induction n with
  | zero => intros; exact pp_none
  | succ n ih =>
    intro y100 z h
    rw [fX7_hasColumnsOf_15]
    repeat (first | with_reducible exact pp_none | with_reducible exact pp_some (by assumption) | with_reducible refine pp_if ?_ ?_ | with_reducible refine pp_I (by assumption) (by decide) (fun _ _ => ?_) | with_reducible refine pp_J (by assumption) (by decide) (fun _ _ => ?_) | with_reducible refine pp_R (by assumption) (fun _ _ => ?_) | with_reducible exact ih _ _ (by assumption) | with_reducible refine pp_b (ih _ _ (by assumption)) (fun _ _ _ => ?_))
theorem mf_X7_hasColumnsOf_15 {p : Nat} {s : Nat} {p1 : Nat} {s1 : Nat} (n : Nat) (y100 : Int32) (h : MF z0 z) : PP (fX7_hasColumnsOf_15 p s p1 s1 n y100 z) (MF z0) := mf_X7_hasColumnsOf_15_l n y100 z h
theorem mf_X7_hasColumnsOf {p : Nat} {s : Nat} {p1 : Nat} {s1 : Nat} (h : MF z0 z) : PP (fX7_hasColumnsOf p s p1 s1 z) (MF z0) := by
  unfold fX7_hasColumnsOf
  repeat (first | with_reducible exact pp_none | with_reducible exact pp_some (by assumption) | with_reducible refine pp_if ?_ ?_ | with_reducible refine pp_I (by assumption) (by decide) (fun _ _ => ?_) | with_reducible refine pp_J (by assumption) (by decide) (fun _ _ => ?_) | with_reducible refine pp_R (by assumption) (fun _ _ => ?_) | with_reducible exact mf_X7_hasColumnsOf_15 _ _ (by assumption) | with_reducible refine pp_b (mf_X7_hasColumnsOf_15 _ _ (by assumption)) (fun _ _ _ => ?_))
theorem mf_X7_copyColumns_2_l {p : Nat} {s : Nat} : ∀ (n : Nat) (y100 : Int32) (z : Zs), MF z0 z → PP (fX7_copyColumns_2 p s n y100 z) (MF z0) := by
  intro n
  induction n with
  | zero => intros; exact pp_none
  | succ n ih =>
    intro y100 z h
    rw [fX7_copyColumns_2]
    repeat (first | with_reducible exact pp_none | with_reducible exact pp_some (by assumption) | with_reducible refine pp_if ?_ ?_ | with_reducible refine pp_I (by assumption) (by decide) (fun _ _ => ?_) | with_reducible refine pp_J (by assumption) (by decide) (fun _ _ => ?_) | with_reducible refine pp_R (by assumption) (fun _ _ => ?_) | with_reducible exact ih _ _ (by assumption) | with_reducible refine pp_b (ih _ _ (by assumption)) (fun _ _ _ => ?_))
theorem mf_X7_copyColumns_2 {p : Nat} {s : Nat} (n : Nat) (y100 : Int32) (h : MF z0 z) : PP (fX7_copyColumns_2 p s n y100 z) (MF z0) := mf_X7_copyColumns_2_l n y100 z h
theorem mf_X7_copyColumns {p : Nat} {s : Nat} (h : MF z0 z) : PP (fX7_copyColumns p s z) (MF z0) := by
  unfold fX7_copyColumns
  repeat (first | with_reducible exact pp_none | with_reducible exact pp_some (by assumption) | with_reducible refine pp_if ?_ ?_ | with_reducible refine pp_I (by assumption) (by decide) (fun _ _ => ?_) | with_reducible refine pp_J (by assumption) (by decide) (fun _ _ => ?_) | with_reducible refine pp_R (by assumption) (fun _ _ => ?_) | with_reducible exact mf_X7_copyColumns_2 _ _ (by assumption) | with_reducible refine pp_b (mf_X7_copyColumns_2 _ _ (by assumption)) (fun _ _ _ => ?_))
theorem mf_X7_setColumns_2_l {p : Nat} {s : Nat} {x2 : Int32} : ∀ (n : Nat) (y100 : Int32) (z : Zs), MF z0 z → PP (fX7_setColumns_2 p s x2 n y100 z) (MF z0) := by
  intro n
  induction n with
  | zero => intros; exact pp_none
  | succ n ih =>
    intro y100 z h
    rw [fX7_setColumns_2]
    repeat (first | with_reducible exact pp_none | with_reducible exact pp_some (by assumption) | with_reducible refine pp_if ?_ ?_ | with_reducible refine pp_I (by assumption) (by decide) (fun _ _ => ?_) | with_reducible refine pp_J (by assumption) (by decide) (fun _ _ => ?_) | with_reducible refine pp_R (by assumption) (fun _ _ => ?_) | with_reducible exact ih _ _ (by assumption) | with_reducible refine pp_b (ih _ _ (by assumption)) (fun _ _ _ => ?_))
theorem mf_X7_setColumns_2 {p : Nat} {s : Nat} {x2 : Int32} (n : Nat) (y100 : Int32) (h : MF z0 z) : PP (fX7_setColumns_2 p s x2 n y100 z) (MF z0) := mf_X7_setColumns_2_l n y100 z h
theorem mf_X7_setColumns {p : Nat} {s : Nat} {x2 : Int32} (h : MF z0 z) : PP (fX7_setColumns p s x2 z) (MF z0) := by
  unfold fX7_setColumns
  repeat (first | with_reducible exact pp_none | with_reducible exact pp_some (by assumption) | with_reducible refine pp_if ?_ ?_ | with_reducible refine pp_I (by assumption) (by decide) (fun _ _ => ?_) | with_reducible refine pp_J (by assumption) (by decide) (fun _ _ => ?_) | with_reducible refine pp_R (by assumption) (fun _ _ => ?_) | with_reducible exact mf_X7_setColumns_2 _ _ (by assumption) | with_reducible refine pp_b (mf_X7_setColumns_2 _ _ (by assumption)) (fun _ _ _ => ?_))
theorem mf_X7_clear {p : Nat} {s : Nat} (h : MF z0 z) : PP (fX7_clear p s z) (MF z0) := by
  unfold fX7_clear
  repeat (first | with_reducible exact pp_none | with_reducible exact pp_some (by assumption) | with_reducible refine pp_if ?_ ?_ | with_reducible refine pp_I (by assumption) (by decide) (fun _ _ => ?_) | with_reducible refine pp_J (by assumption) (by decide) (fun _ _ => ?_) | with_reducible refine pp_R (by assumption) (fun _ _ => ?_))
theorem mf_X5_emit {p : Nat} {x1 : Int32} {x2 : Int64} (h : MF z0 z) : PP (fX5_emit p x1 x2 z) (MF z0) := by
  unfold fX5_emit
  repeat (first | with_reducible exact pp_none | with_reducible exact pp_some (by assumption) | with_reducible refine pp_if ?_ ?_ | with_reducible refine pp_I (by assumption) (by decide) (fun _ _ => ?_) | with_reducible refine pp_J (by assumption) (by decide) (fun _ _ => ?_) | with_reducible refine pp_R (by assumption) (fun _ _ => ?_))
theorem mf_X3_startStream {x1 : Int32} (h : MF z0 z) : PP (fX3_startStream x1 z) (MF z0) := by
  unfold fX3_startStream
  repeat (first | with_reducible exact pp_none | with_reducible exact pp_some (by assumption) | with_reducible refine pp_if ?_ ?_ | with_reducible refine pp_I (by assumption) (by decide) (fun _ _ => ?_) | with_reducible refine pp_J (by assumption) (by decide) (fun _ _ => ?_) | with_reducible refine pp_R (by assumption) (fun _ _ => ?_) | with_reducible exact mf_X3_report (by assumption) | with_reducible refine pp_b (mf_X3_report (by assumption)) (fun _ _ _ => ?_) | with_reducible exact mf_X7_clear (by assumption) | with_reducible refine pp_b (mf_X7_clear (by assumption)) (fun _ _ _ => ?_))
theorem mf_X3_startCheck {x1 : Int32} (h : MF z0 z) : PP (fX3_startCheck x1 z) (MF z0) := by
  unfold fX3_startCheck
  repeat (first | with_reducible exact pp_none | with_reducible exact pp_some (by assumption) | with_reducible refine pp_if ?_ ?_ | with_reducible refine pp_I (by assumption) (by decide) (fun _ _ => ?_) | with_reducible refine pp_J (by assumption) (by decide) (fun _ _ => ?_) | with_reducible refine pp_R (by assumption) (fun _ _ => ?_) | with_reducible exact mf_X3_report (by assumption) | with_reducible refine pp_b (mf_X3_report (by assumption)) (fun _ _ _ => ?_))
theorem mf_X3_startWork {x1 : Int32} {x2 : Int32} (h : MF z0 z) : PP (fX3_startWork x1 x2 z) (MF z0) := by
  unfold fX3_startWork
  repeat (first | with_reducible exact pp_none | with_reducible exact pp_some (by assumption) | with_reducible refine pp_if ?_ ?_ | with_reducible refine pp_I (by assumption) (by decide) (fun _ _ => ?_) | with_reducible refine pp_J (by assumption) (by decide) (fun _ _ => ?_) | with_reducible refine pp_R (by assumption) (fun _ _ => ?_))
theorem mf_X3_addColumn_38 {x1 : Int64} (h : MF z0 z) : PP (fX3_addColumn_38 x1 z) (MF z0) := by
  unfold fX3_addColumn_38
  repeat (first | with_reducible exact pp_none | with_reducible exact pp_some (by assumption) | with_reducible refine pp_if ?_ ?_ | with_reducible refine pp_I (by assumption) (by decide) (fun _ _ => ?_) | with_reducible refine pp_J (by assumption) (by decide) (fun _ _ => ?_) | with_reducible refine pp_R (by assumption) (fun _ _ => ?_))
theorem mf_X3_addColumn_2_l {x1 : Int64} : ∀ (n : Nat) (y100 : Int32) (z : Zs), MF z0 z → PP (fX3_addColumn_2 x1 n y100 z) (MF z0) := by
  intro n
  induction n with
  | zero => intros; exact pp_none
  | succ n ih =>
    intro y100 z h
    rw [fX3_addColumn_2]
    repeat (first | with_reducible exact pp_none | with_reducible exact pp_some (by assumption) | with_reducible refine pp_if ?_ ?_ | with_reducible refine pp_I (by assumption) (by decide) (fun _ _ => ?_) | with_reducible refine pp_J (by assumption) (by decide) (fun _ _ => ?_) | with_reducible refine pp_R (by assumption) (fun _ _ => ?_) | with_reducible exact mf_X3_addColumn_38 (by assumption) | with_reducible refine pp_b (mf_X3_addColumn_38 (by assumption)) (fun _ _ _ => ?_) | with_reducible exact ih _ _ (by assumption) | with_reducible refine pp_b (ih _ _ (by assumption)) (fun _ _ _ => ?_))
theorem mf_X3_addColumn_2 {x1 : Int64} (n : Nat) (y100 : Int32) (h : MF z0 z) : PP (fX3_addColumn_2 x1 n y100 z) (MF z0) := mf_X3_addColumn_2_l n y100 z h
theorem mf_X3_addColumn {x1 : Int64} (h : MF z0 z) : PP (fX3_addColumn x1 z) (MF z0) := by
  unfold fX3_addColumn
  repeat (first | with_reducible exact pp_none | with_reducible exact pp_some (by assumption) | with_reducible refine pp_if ?_ ?_ | with_reducible refine pp_I (by assumption) (by decide) (fun _ _ => ?_) | with_reducible refine pp_J (by assumption) (by decide) (fun _ _ => ?_) | with_reducible refine pp_R (by assumption) (fun _ _ => ?_) | with_reducible exact mf_X3_addColumn_2 _ _ (by assumption) | with_reducible refine pp_b (mf_X3_addColumn_2 _ _ (by assumption)) (fun _ _ _ => ?_))
theorem mf_X3_nameColumn {x1 : Int64} {x3 : Int32} (h : MF z0 z) : PP (fX3_nameColumn x1 x3 z) (MF z0) := by
  unfold fX3_nameColumn
  repeat (first | with_reducible exact pp_none | with_reducible exact pp_some (by assumption) | with_reducible refine pp_if ?_ ?_ | with_reducible refine pp_I (by assumption) (by decide) (fun _ _ => ?_) | with_reducible refine pp_J (by assumption) (by decide) (fun _ _ => ?_) | with_reducible refine pp_R (by assumption) (fun _ _ => ?_) | with_reducible exact mf_X3_report (by assumption) | with_reducible refine pp_b (mf_X3_report (by assumption)) (fun _ _ _ => ?_) | with_reducible exact mf_X3_addColumn (by assumption) | with_reducible refine pp_b (mf_X3_addColumn (by assumption)) (fun _ _ _ => ?_))
theorem mf_X3_nameStream {x1 : Int64} {x3 : Int32} (h : MF z0 z) : PP (fX3_nameStream x1 x3 z) (MF z0) := by
  unfold fX3_nameStream
  repeat (first | with_reducible exact pp_none | with_reducible exact pp_some (by assumption) | with_reducible refine pp_if ?_ ?_ | with_reducible refine pp_I (by assumption) (by decide) (fun _ _ => ?_) | with_reducible refine pp_J (by assumption) (by decide) (fun _ _ => ?_) | with_reducible refine pp_R (by assumption) (fun _ _ => ?_) | with_reducible exact mf_X3_report (by assumption) | with_reducible refine pp_b (mf_X3_report (by assumption)) (fun _ _ _ => ?_) | with_reducible exact mf_X5_streamNamed (by assumption) | with_reducible refine pp_b (mf_X5_streamNamed (by assumption)) (fun _ _ _ => ?_))
theorem mf_X3_setFirstInput {x1 : Int64} {x3 : Int32} (h : MF z0 z) : PP (fX3_setFirstInput x1 x3 z) (MF z0) := by
  unfold fX3_setFirstInput
  repeat (first | with_reducible exact pp_none | with_reducible exact pp_some (by assumption) | with_reducible refine pp_if ?_ ?_ | with_reducible refine pp_I (by assumption) (by decide) (fun _ _ => ?_) | with_reducible refine pp_J (by assumption) (by decide) (fun _ _ => ?_) | with_reducible refine pp_R (by assumption) (fun _ _ => ?_) | with_reducible exact mf_X3_report (by assumption) | with_reducible refine pp_b (mf_X3_report (by assumption)) (fun _ _ _ => ?_) | with_reducible exact mf_X5_streamNamed (by assumption) | with_reducible refine pp_b (mf_X5_streamNamed (by assumption)) (fun _ _ _ => ?_) | with_reducible exact mf_X7_copyColumns (by assumption) | with_reducible refine pp_b (mf_X7_copyColumns (by assumption)) (fun _ _ _ => ?_))
theorem mf_X3_setSecondInput {x1 : Int64} {x3 : Int32} (h : MF z0 z) : PP (fX3_setSecondInput x1 x3 z) (MF z0) := by
  unfold fX3_setSecondInput
  repeat (first | with_reducible exact pp_none | with_reducible exact pp_some (by assumption) | with_reducible refine pp_if ?_ ?_ | with_reducible refine pp_I (by assumption) (by decide) (fun _ _ => ?_) | with_reducible refine pp_J (by assumption) (by decide) (fun _ _ => ?_) | with_reducible refine pp_R (by assumption) (fun _ _ => ?_) | with_reducible exact mf_X3_report (by assumption) | with_reducible refine pp_b (mf_X3_report (by assumption)) (fun _ _ _ => ?_) | with_reducible exact mf_X5_streamNamed (by assumption) | with_reducible refine pp_b (mf_X5_streamNamed (by assumption)) (fun _ _ _ => ?_))
theorem mf_X3_setKey_48 {x1 : Int64} {x3 : Int32} {u0 : Int32} {up1 : Nat} {us1 : Nat} (h : MF z0 z) : PP (fX3_setKey_48 x1 x3 u0 up1 us1 z) (MF z0) := by
  unfold fX3_setKey_48
  repeat (first | with_reducible exact pp_none | with_reducible exact pp_some (by assumption) | with_reducible refine pp_if ?_ ?_ | with_reducible refine pp_I (by assumption) (by decide) (fun _ _ => ?_) | with_reducible refine pp_J (by assumption) (by decide) (fun _ _ => ?_) | with_reducible refine pp_R (by assumption) (fun _ _ => ?_) | with_reducible exact mf_X3_report (by assumption) | with_reducible refine pp_b (mf_X3_report (by assumption)) (fun _ _ _ => ?_) | with_reducible exact mf_X3_addColumn (by assumption) | with_reducible refine pp_b (mf_X3_addColumn (by assumption)) (fun _ _ _ => ?_))
theorem mf_X3_setKey {x1 : Int64} {x3 : Int32} (h : MF z0 z) : PP (fX3_setKey x1 x3 z) (MF z0) := by
  unfold fX3_setKey
  repeat (first | with_reducible exact pp_none | with_reducible exact pp_some (by assumption) | with_reducible refine pp_if ?_ ?_ | with_reducible refine pp_I (by assumption) (by decide) (fun _ _ => ?_) | with_reducible refine pp_J (by assumption) (by decide) (fun _ _ => ?_) | with_reducible refine pp_R (by assumption) (fun _ _ => ?_) | with_reducible exact mf_X7_columnNamed (by assumption) | with_reducible refine pp_b (mf_X7_columnNamed (by assumption)) (fun _ _ _ => ?_) | with_reducible exact mf_X3_setKey_48 (by assumption) | with_reducible refine pp_b (mf_X3_setKey_48 (by assumption)) (fun _ _ _ => ?_))
theorem mf_X3_pickColumn {x1 : Int64} {x3 : Int32} (h : MF z0 z) : PP (fX3_pickColumn x1 x3 z) (MF z0) := by
  unfold fX3_pickColumn
  repeat (first | with_reducible exact pp_none | with_reducible exact pp_some (by assumption) | with_reducible refine pp_if ?_ ?_ | with_reducible refine pp_I (by assumption) (by decide) (fun _ _ => ?_) | with_reducible refine pp_J (by assumption) (by decide) (fun _ _ => ?_) | with_reducible refine pp_R (by assumption) (fun _ _ => ?_) | with_reducible exact mf_X3_report (by assumption) | with_reducible refine pp_b (mf_X3_report (by assumption)) (fun _ _ _ => ?_) | with_reducible exact mf_X7_setPart (by assumption) | with_reducible refine pp_b (mf_X7_setPart (by assumption)) (fun _ _ _ => ?_) | with_reducible exact mf_X7_columnNamed (by assumption) | with_reducible refine pp_b (mf_X7_columnNamed (by assumption)) (fun _ _ _ => ?_) | with_reducible exact mf_X3_addColumn (by assumption) | with_reducible refine pp_b (mf_X3_addColumn (by assumption)) (fun _ _ _ => ?_))
theorem mf_X3_lookAtName {x1 : Int32} {x2 : Int64} {x4 : Int32} (h : MF z0 z) : PP (fX3_lookAtName x1 x2 x4 z) (MF z0) := by
  unfold fX3_lookAtName
  repeat (first | with_reducible exact pp_none | with_reducible exact pp_some (by assumption) | with_reducible refine pp_if ?_ ?_ | with_reducible refine pp_I (by assumption) (by decide) (fun _ _ => ?_) | with_reducible refine pp_J (by assumption) (by decide) (fun _ _ => ?_) | with_reducible refine pp_R (by assumption) (fun _ _ => ?_) | with_reducible exact mf_X3_nameStream (by assumption) | with_reducible refine pp_b (mf_X3_nameStream (by assumption)) (fun _ _ _ => ?_) | with_reducible exact mf_X3_nameColumn (by assumption) | with_reducible refine pp_b (mf_X3_nameColumn (by assumption)) (fun _ _ _ => ?_) | with_reducible exact mf_X3_setFirstInput (by assumption) | with_reducible refine pp_b (mf_X3_setFirstInput (by assumption)) (fun _ _ _ => ?_) | with_reducible exact mf_X3_setSecondInput (by assumption) | with_reducible refine pp_b (mf_X3_setSecondInput (by assumption)) (fun _ _ _ => ?_) | with_reducible exact mf_X3_setKey (by assumption) | with_reducible refine pp_b (mf_X3_setKey (by assumption)) (fun _ _ _ => ?_) | with_reducible exact mf_X3_pickColumn (by assumption) | with_reducible refine pp_b (mf_X3_pickColumn (by assumption)) (fun _ _ _ => ?_))
theorem mf_X3_lookAtRange_20 {x1 : Int32} {x2 : Int64} {x4 : Int32} {u0 : Int64} (h : MF z0 z) : PP (fX3_lookAtRange_20 x1 x2 x4 u0 z) (MF z0) := by
  unfold fX3_lookAtRange_20
  repeat (first | with_reducible exact pp_none | with_reducible exact pp_some (by assumption) | with_reducible refine pp_if ?_ ?_ | with_reducible refine pp_I (by assumption) (by decide) (fun _ _ => ?_) | with_reducible refine pp_J (by assumption) (by decide) (fun _ _ => ?_) | with_reducible refine pp_R (by assumption) (fun _ _ => ?_) | with_reducible exact mf_X3_report (by assumption) | with_reducible refine pp_b (mf_X3_report (by assumption)) (fun _ _ _ => ?_))
theorem mf_X3_lookAtRange {x1 : Int32} {x2 : Int64} {x4 : Int32} (h : MF z0 z) : PP (fX3_lookAtRange x1 x2 x4 z) (MF z0) := by
  unfold fX3_lookAtRange
  repeat (first | with_reducible exact pp_none | with_reducible exact pp_some (by assumption) | with_reducible refine pp_if ?_ ?_ | with_reducible refine pp_I (by assumption) (by decide) (fun _ _ => ?_) | with_reducible refine pp_J (by assumption) (by decide) (fun _ _ => ?_) | with_reducible refine pp_R (by assumption) (fun _ _ => ?_) | with_reducible exact mf_X3_lookAtRange_20 (by assumption) | with_reducible refine pp_b (mf_X3_lookAtRange_20 (by assumption)) (fun _ _ _ => ?_))
theorem mf_X3_setTotal {x1 : Int32} (h : MF z0 z) : PP (fX3_setTotal x1 z) (MF z0) := by
  unfold fX3_setTotal
  repeat (first | with_reducible exact pp_none | with_reducible exact pp_some (by assumption) | with_reducible refine pp_if ?_ ?_ | with_reducible refine pp_I (by assumption) (by decide) (fun _ _ => ?_) | with_reducible refine pp_J (by assumption) (by decide) (fun _ _ => ?_) | with_reducible refine pp_R (by assumption) (fun _ _ => ?_) | with_reducible exact mf_X7_setPart (by assumption) | with_reducible refine pp_b (mf_X7_setPart (by assumption)) (fun _ _ _ => ?_))
theorem mf_X3_startExpression  (h : MF z0 z) : PP (fX3_startExpression  z) (MF z0) := by
  unfold fX3_startExpression
  repeat (first | with_reducible exact pp_none | with_reducible exact pp_some (by assumption) | with_reducible refine pp_if ?_ ?_ | with_reducible refine pp_I (by assumption) (by decide) (fun _ _ => ?_) | with_reducible refine pp_J (by assumption) (by decide) (fun _ _ => ?_) | with_reducible refine pp_R (by assumption) (fun _ _ => ?_))
theorem mf_X3_endExpression  (h : MF z0 z) : PP (fX3_endExpression  z) (MF z0) := by
  unfold fX3_endExpression
  repeat (first | with_reducible exact pp_none | with_reducible exact pp_some (by assumption) | with_reducible refine pp_if ?_ ?_ | with_reducible refine pp_I (by assumption) (by decide) (fun _ _ => ?_) | with_reducible refine pp_J (by assumption) (by decide) (fun _ _ => ?_) | with_reducible refine pp_R (by assumption) (fun _ _ => ?_) | with_reducible exact mf_X7_setCode (by assumption) | with_reducible refine pp_b (mf_X7_setCode (by assumption)) (fun _ _ _ => ?_))
theorem mf_X3_emit {x1 : Int32} {x2 : Int64} (h : MF z0 z) : PP (fX3_emit x1 x2 z) (MF z0) := by
  unfold fX3_emit
  repeat (first | with_reducible exact pp_none | with_reducible exact pp_some (by assumption) | with_reducible refine pp_if ?_ ?_ | with_reducible refine pp_I (by assumption) (by decide) (fun _ _ => ?_) | with_reducible refine pp_J (by assumption) (by decide) (fun _ _ => ?_) | with_reducible refine pp_R (by assumption) (fun _ _ => ?_) | with_reducible exact mf_X5_emit (by assumption) | with_reducible refine pp_b (mf_X5_emit (by assumption)) (fun _ _ _ => ?_))
theorem mf_X3_useColumn {x1 : Int64} {x3 : Int32} (h : MF z0 z) : PP (fX3_useColumn x1 x3 z) (MF z0) := by
  unfold fX3_useColumn
  repeat (first | with_reducible exact pp_none | with_reducible exact pp_some (by assumption) | with_reducible refine pp_if ?_ ?_ | with_reducible refine pp_I (by assumption) (by decide) (fun _ _ => ?_) | with_reducible refine pp_J (by assumption) (by decide) (fun _ _ => ?_) | with_reducible refine pp_R (by assumption) (fun _ _ => ?_) | with_reducible exact mf_X3_report (by assumption) | with_reducible refine pp_b (mf_X3_report (by assumption)) (fun _ _ _ => ?_) | with_reducible exact mf_X7_columnNamed (by assumption) | with_reducible refine pp_b (mf_X7_columnNamed (by assumption)) (fun _ _ _ => ?_) | with_reducible exact mf_X5_emit (by assumption) | with_reducible refine pp_b (mf_X5_emit (by assumption)) (fun _ _ _ => ?_))
theorem mf_X3_endFunction_21 {x1 : Int32} {x2 : Int32} {x3 : Int32} {u0 : Int32} {u1 : Int32} (h : MF z0 z) : PP (fX3_endFunction_21 x1 x2 x3 u0 u1 z) (MF z0) := by
  unfold fX3_endFunction_21
  repeat (first | with_reducible exact pp_none | with_reducible exact pp_some (by assumption) | with_reducible refine pp_if ?_ ?_ | with_reducible refine pp_I (by assumption) (by decide) (fun _ _ => ?_) | with_reducible refine pp_J (by assumption) (by decide) (fun _ _ => ?_) | with_reducible refine pp_R (by assumption) (fun _ _ => ?_) | with_reducible exact mf_X3_report (by assumption) | with_reducible refine pp_b (mf_X3_report (by assumption)) (fun _ _ _ => ?_) | with_reducible exact mf_X5_emit (by assumption) | with_reducible refine pp_b (mf_X5_emit (by assumption)) (fun _ _ _ => ?_))
theorem mf_X3_endFunction {x1 : Int32} {x2 : Int32} {x3 : Int32} (h : MF z0 z) : PP (fX3_endFunction x1 x2 x3 z) (MF z0) := by
  unfold fX3_endFunction
  repeat (first | with_reducible exact pp_none | with_reducible exact pp_some (by assumption) | with_reducible refine pp_if ?_ ?_ | with_reducible refine pp_I (by assumption) (by decide) (fun _ _ => ?_) | with_reducible refine pp_J (by assumption) (by decide) (fun _ _ => ?_) | with_reducible refine pp_R (by assumption) (fun _ _ => ?_) | with_reducible exact mf_X3_endFunction_21 (by assumption) | with_reducible refine pp_b (mf_X3_endFunction_21 (by assumption)) (fun _ _ _ => ?_))
theorem mf_X3_endCheck {x1 : Int32} (h : MF z0 z) : PP (fX3_endCheck x1 z) (MF z0) := by
  unfold fX3_endCheck
  repeat (first | with_reducible exact pp_none | with_reducible exact pp_some (by assumption) | with_reducible refine pp_if ?_ ?_ | with_reducible refine pp_I (by assumption) (by decide) (fun _ _ => ?_) | with_reducible refine pp_J (by assumption) (by decide) (fun _ _ => ?_) | with_reducible refine pp_R (by assumption) (fun _ _ => ?_))
theorem mf_X3_addOtherColumns_2_l  : ∀ (n : Nat) (y100 : Int32) (z : Zs), MF z0 z → PP (fX3_addOtherColumns_2  n y100 z) (MF z0) := by
  intro n
  induction n with
  | zero => intros; exact pp_none
  | succ n ih =>
    intro y100 z h
    rw [fX3_addOtherColumns_2]
    repeat (first | with_reducible exact pp_none | with_reducible exact pp_some (by assumption) | with_reducible refine pp_if ?_ ?_ | with_reducible refine pp_I (by assumption) (by decide) (fun _ _ => ?_) | with_reducible refine pp_J (by assumption) (by decide) (fun _ _ => ?_) | with_reducible refine pp_R (by assumption) (fun _ _ => ?_) | with_reducible exact mf_X3_report (by assumption) | with_reducible refine pp_b (mf_X3_report (by assumption)) (fun _ _ _ => ?_) | with_reducible exact mf_X7_columnAt (by assumption) | with_reducible refine pp_b (mf_X7_columnAt (by assumption)) (fun _ _ _ => ?_) | with_reducible exact mf_X3_addColumn (by assumption) | with_reducible refine pp_b (mf_X3_addColumn (by assumption)) (fun _ _ _ => ?_) | with_reducible exact ih _ _ (by assumption) | with_reducible refine pp_b (ih _ _ (by assumption)) (fun _ _ _ => ?_))
theorem mf_X3_addOtherColumns_2  (n : Nat) (y100 : Int32) (h : MF z0 z) : PP (fX3_addOtherColumns_2  n y100 z) (MF z0) := mf_X3_addOtherColumns_2_l n y100 z h
theorem mf_X3_addOtherColumns  (h : MF z0 z) : PP (fX3_addOtherColumns  z) (MF z0) := by
  unfold fX3_addOtherColumns
  repeat (first | with_reducible exact pp_none | with_reducible exact pp_some (by assumption) | with_reducible refine pp_if ?_ ?_ | with_reducible refine pp_I (by assumption) (by decide) (fun _ _ => ?_) | with_reducible refine pp_J (by assumption) (by decide) (fun _ _ => ?_) | with_reducible refine pp_R (by assumption) (fun _ _ => ?_) | with_reducible exact mf_X3_addOtherColumns_2 _ _ (by assumption) | with_reducible refine pp_b (mf_X3_addOtherColumns_2 _ _ (by assumption)) (fun _ _ _ => ?_))
theorem mf_X3_endStream_88  (h : MF z0 z) : PP (fX3_endStream_88  z) (MF z0) := by
  unfold fX3_endStream_88
  repeat (first | with_reducible exact pp_none | with_reducible exact pp_some (by assumption) | with_reducible refine pp_if ?_ ?_ | with_reducible refine pp_I (by assumption) (by decide) (fun _ _ => ?_) | with_reducible refine pp_J (by assumption) (by decide) (fun _ _ => ?_) | with_reducible refine pp_R (by assumption) (fun _ _ => ?_) | with_reducible exact mf_X7_setColumns (by assumption) | with_reducible refine pp_b (mf_X7_setColumns (by assumption)) (fun _ _ _ => ?_))
theorem mf_X3_endStream_63  (h : MF z0 z) : PP (fX3_endStream_63  z) (MF z0) := by
  unfold fX3_endStream_63
  repeat (first | with_reducible exact pp_none | with_reducible exact pp_some (by assumption) | with_reducible refine pp_if ?_ ?_ | with_reducible refine pp_I (by assumption) (by decide) (fun _ _ => ?_) | with_reducible refine pp_J (by assumption) (by decide) (fun _ _ => ?_) | with_reducible refine pp_R (by assumption) (fun _ _ => ?_) | with_reducible exact mf_X3_report (by assumption) | with_reducible refine pp_b (mf_X3_report (by assumption)) (fun _ _ _ => ?_) | with_reducible exact mf_X3_endStream_88 (by assumption) | with_reducible refine pp_b (mf_X3_endStream_88 (by assumption)) (fun _ _ _ => ?_))
theorem mf_X3_endStream  (h : MF z0 z) : PP (fX3_endStream  z) (MF z0) := by
  unfold fX3_endStream
  repeat (first | with_reducible exact pp_none | with_reducible exact pp_some (by assumption) | with_reducible refine pp_if ?_ ?_ | with_reducible refine pp_I (by assumption) (by decide) (fun _ _ => ?_) | with_reducible refine pp_J (by assumption) (by decide) (fun _ _ => ?_) | with_reducible refine pp_R (by assumption) (fun _ _ => ?_) | with_reducible exact mf_X3_report (by assumption) | with_reducible refine pp_b (mf_X3_report (by assumption)) (fun _ _ _ => ?_) | with_reducible exact mf_X7_hasColumnsOf (by assumption) | with_reducible refine pp_b (mf_X7_hasColumnsOf (by assumption)) (fun _ _ _ => ?_) | with_reducible exact mf_X3_addOtherColumns (by assumption) | with_reducible refine pp_b (mf_X3_addOtherColumns (by assumption)) (fun _ _ _ => ?_) | with_reducible exact mf_X3_endStream_63 (by assumption) | with_reducible refine pp_b (mf_X3_endStream_63 (by assumption)) (fun _ _ _ => ?_))
end MFS
