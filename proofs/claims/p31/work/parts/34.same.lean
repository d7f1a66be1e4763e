/-! EACH TWIN DOES what its function does -/
def Sm {α : Type} (o : Option (α × Ts)) (r : Option (α × Zs)) : Prop := ∀ v T, o = some (v, T) → r = some (v, uz T)
section SMS
variable {α β : Type} {T : Ts}
theorem sm9_n {r : Option (α × Zs)} : Sm none r := fun v T h => by cases h
theorem sm9_s {v : α} : Sm (some (v, T)) (some (v, uz T)) := fun v T h => by cases h; rfl
theorem sm9_if {c : Prop} [Decidable c] {a b : Option (α × Ts)} {a' b' : Option (α × Zs)} (h : Sm a a') (k : Sm b b') : Sm (if c then a else b) (if c then a' else b') := by
  by_cases q : c
  · rw [if_pos q, if_pos q]; exact h
  · rw [if_neg q, if_neg q]; exact k
theorem sm9_b {o : Option (α × Ts)} {r : Option (α × Zs)} {k : α → Ts → Option (β × Ts)} {k' : α → Zs → Option (β × Zs)} (h : Sm o r) (g : ∀ v T, Sm (k v T) (k' v (uz T))) : Sm (bqT o k) (bq r k') := by
  rcases o with _ | ⟨v, T⟩
  · exact sm9_n
  · rw [h v T rfl]; exact g v T
theorem sm9_I {c p s i : Nat} {v : Int32} {k : Ts → Option (α × Ts)} {k' : Zs → Option (α × Zs)} (g : ∀ T, Sm (k T) (k' (uz T))) : Sm (ltT (uI T c p s i v) k) (lt (sI (uz T) c p s i v) k') := by
  cases e : uI T c p s i v with
  | none => exact sm9_n
  | some T' => rw [← uz_I e]; exact g T'
theorem sm9_J {c p s i : Nat} {v : Int64} {k : Ts → Option (α × Ts)} {k' : Zs → Option (α × Zs)} (g : ∀ T, Sm (k T) (k' (uz T))) : Sm (ltT (uJ T c p s i v) k) (lt (sJ (uz T) c p s i v) k') := by
  cases e : uJ T c p s i v with
  | none => exact sm9_n
  | some T' => rw [← uz_J e]; exact g T'
theorem sm9_R {c p s i : Nat} {v : Nat × Nat} {k : Ts → Option (α × Ts)} {k' : Zs → Option (α × Zs)} (g : ∀ T, Sm (k T) (k' (uz T))) : Sm (ltT (uR T c p s i v) k) (lt (sR (uz T) c p s i v) k') := by
  cases e : uR T c p s i v with
  | none => exact sm9_n
  | some T' => rw [← uz_R e]; exact g T'

theorem sm_fX8_clear {p : Nat} {s : Nat} {x1 : Int32} (T : Ts) : Sm (tX8_clear p s x1 T) (fX8_clear p s x1 (uz T)) := by
  unfold tX8_clear fX8_clear
  repeat (first | with_reducible exact sm9_n | with_reducible exact sm9_s | with_reducible refine sm9_if ?_ ?_ | with_reducible refine sm9_I (fun _ => ?_) | with_reducible refine sm9_J (fun _ => ?_) | with_reducible refine sm9_R (fun _ => ?_) | intro _)
theorem sm_fX10_clear {p : Nat} {s : Nat} (T : Ts) : Sm (tX10_clear p s T) (fX10_clear p s (uz T)) := by
  unfold tX10_clear fX10_clear
  repeat (first | with_reducible exact sm9_n | with_reducible exact sm9_s | with_reducible refine sm9_if ?_ ?_ | with_reducible refine sm9_I (fun _ => ?_) | with_reducible refine sm9_J (fun _ => ?_) | with_reducible refine sm9_R (fun _ => ?_) | intro _)
theorem sm_fX7_clear {p : Nat} {s : Nat} (T : Ts) : Sm (tX7_clear p s T) (fX7_clear p s (uz T)) := by
  unfold tX7_clear fX7_clear
  repeat (first | with_reducible exact sm9_n | with_reducible exact sm9_s | with_reducible refine sm9_if ?_ ?_ | with_reducible refine sm9_I (fun _ => ?_) | with_reducible refine sm9_J (fun _ => ?_) | with_reducible refine sm9_R (fun _ => ?_) | intro _)
theorem sm_fX7_setColumns_2 {p : Nat} {s : Nat} {x2 : Int32} : ∀ (n : Nat) (y0 : Int32) (T : Ts), Sm (tX7_setColumns_2 p s x2 n y0 T) (fX7_setColumns_2 p s x2 n y0 (uz T)) := by
  intro n
  induction n with
  | zero => intros; exact sm9_n
  | succ n ih =>
    intro y0 T
    rw [tX7_setColumns_2, fX7_setColumns_2]
    repeat (first | with_reducible exact sm9_n | with_reducible exact sm9_s | with_reducible refine sm9_if ?_ ?_ | with_reducible refine sm9_I (fun _ => ?_) | with_reducible refine sm9_J (fun _ => ?_) | with_reducible refine sm9_R (fun _ => ?_) | with_reducible exact ih _ _ | with_reducible refine sm9_b (ih _ _) (fun _ _ => ?_) | intro _)
theorem sm_fX7_setColumns {p : Nat} {s : Nat} {x2 : Int32} (T : Ts) : Sm (tX7_setColumns p s x2 T) (fX7_setColumns p s x2 (uz T)) := by
  unfold tX7_setColumns fX7_setColumns
  repeat (first | with_reducible exact sm9_n | with_reducible exact sm9_s | with_reducible refine sm9_if ?_ ?_ | with_reducible refine sm9_I (fun _ => ?_) | with_reducible refine sm9_J (fun _ => ?_) | with_reducible refine sm9_R (fun _ => ?_) | with_reducible refine sm_fX7_setColumns_2 _ _ _ | with_reducible refine sm9_b (sm_fX7_setColumns_2 _ _ _) (fun _ _ => ?_) | intro _)
theorem sm_fX7_copyColumns_2 {p : Nat} {s : Nat} : ∀ (n : Nat) (y0 : Int32) (T : Ts), Sm (tX7_copyColumns_2 p s n y0 T) (fX7_copyColumns_2 p s n y0 (uz T)) := by
  intro n
  induction n with
  | zero => intros; exact sm9_n
  | succ n ih =>
    intro y0 T
    rw [tX7_copyColumns_2, fX7_copyColumns_2]
    repeat (first | with_reducible exact sm9_n | with_reducible exact sm9_s | with_reducible refine sm9_if ?_ ?_ | with_reducible refine sm9_I (fun _ => ?_) | with_reducible refine sm9_J (fun _ => ?_) | with_reducible refine sm9_R (fun _ => ?_) | with_reducible exact ih _ _ | with_reducible refine sm9_b (ih _ _) (fun _ _ => ?_) | intro _)
theorem sm_fX7_copyColumns {p : Nat} {s : Nat} (T : Ts) : Sm (tX7_copyColumns p s T) (fX7_copyColumns p s (uz T)) := by
  unfold tX7_copyColumns fX7_copyColumns
  repeat (first | with_reducible exact sm9_n | with_reducible exact sm9_s | with_reducible refine sm9_if ?_ ?_ | with_reducible refine sm9_I (fun _ => ?_) | with_reducible refine sm9_J (fun _ => ?_) | with_reducible refine sm9_R (fun _ => ?_) | with_reducible refine sm_fX7_copyColumns_2 _ _ _ | with_reducible refine sm9_b (sm_fX7_copyColumns_2 _ _ _) (fun _ _ => ?_) | intro _)
theorem sm_fX7_columnNamed_2 {p : Nat} {s : Nat} {x1 : Int64} : ∀ (n : Nat) (y0 : Int32) (T : Ts), Sm (tX7_columnNamed_2 p s x1 n y0 T) (fX7_columnNamed_2 p s x1 n y0 (uz T)) := by
  intro n
  induction n with
  | zero => intros; exact sm9_n
  | succ n ih =>
    intro y0 T
    rw [tX7_columnNamed_2, fX7_columnNamed_2]
    repeat (first | with_reducible exact sm9_n | with_reducible exact sm9_s | with_reducible refine sm9_if ?_ ?_ | with_reducible refine sm9_I (fun _ => ?_) | with_reducible refine sm9_J (fun _ => ?_) | with_reducible refine sm9_R (fun _ => ?_) | with_reducible exact ih _ _ | with_reducible refine sm9_b (ih _ _) (fun _ _ => ?_) | intro _)
theorem sm_fX7_columnNamed {p : Nat} {s : Nat} {x1 : Int64} (T : Ts) : Sm (tX7_columnNamed p s x1 T) (fX7_columnNamed p s x1 (uz T)) := by
  unfold tX7_columnNamed fX7_columnNamed
  repeat (first | with_reducible exact sm9_n | with_reducible exact sm9_s | with_reducible refine sm9_if ?_ ?_ | with_reducible refine sm9_I (fun _ => ?_) | with_reducible refine sm9_J (fun _ => ?_) | with_reducible refine sm9_R (fun _ => ?_) | with_reducible refine sm_fX7_columnNamed_2 _ _ _ | with_reducible refine sm9_b (sm_fX7_columnNamed_2 _ _ _) (fun _ _ => ?_) | intro _)
theorem sm_fX7_columnAt {p : Nat} {s : Nat} {x1 : Int32} (T : Ts) : Sm (tX7_columnAt p s x1 T) (fX7_columnAt p s x1 (uz T)) := by
  unfold tX7_columnAt fX7_columnAt
  repeat (first | with_reducible exact sm9_n | with_reducible exact sm9_s | with_reducible refine sm9_if ?_ ?_ | with_reducible refine sm9_I (fun _ => ?_) | with_reducible refine sm9_J (fun _ => ?_) | with_reducible refine sm9_R (fun _ => ?_) | intro _)
theorem sm_fX7_hasColumnsOf_15 {p : Nat} {s : Nat} {p1 : Nat} {s1 : Nat} : ∀ (n : Nat) (y0 : Int32) (T : Ts), Sm (tX7_hasColumnsOf_15 p s p1 s1 n y0 T) (fX7_hasColumnsOf_15 p s p1 s1 n y0 (uz T)) := by
  intro n
  induction n with
  | zero => intros; exact sm9_n
  | succ n ih =>
    intro y0 T
    rw [tX7_hasColumnsOf_15, fX7_hasColumnsOf_15]
    repeat (first | with_reducible exact sm9_n | with_reducible exact sm9_s | with_reducible refine sm9_if ?_ ?_ | with_reducible refine sm9_I (fun _ => ?_) | with_reducible refine sm9_J (fun _ => ?_) | with_reducible refine sm9_R (fun _ => ?_) | with_reducible exact ih _ _ | with_reducible refine sm9_b (ih _ _) (fun _ _ => ?_) | intro _)
theorem sm_fX7_hasColumnsOf {p : Nat} {s : Nat} {p1 : Nat} {s1 : Nat} (T : Ts) : Sm (tX7_hasColumnsOf p s p1 s1 T) (fX7_hasColumnsOf p s p1 s1 (uz T)) := by
  unfold tX7_hasColumnsOf fX7_hasColumnsOf
  repeat (first | with_reducible exact sm9_n | with_reducible exact sm9_s | with_reducible refine sm9_if ?_ ?_ | with_reducible refine sm9_I (fun _ => ?_) | with_reducible refine sm9_J (fun _ => ?_) | with_reducible refine sm9_R (fun _ => ?_) | with_reducible refine sm_fX7_hasColumnsOf_15 _ _ _ | with_reducible refine sm9_b (sm_fX7_hasColumnsOf_15 _ _ _) (fun _ _ => ?_) | intro _)
theorem sm_fX7_setPart {p : Nat} {s : Nat} {x1 : Int32} {x2 : Int32} (T : Ts) : Sm (tX7_setPart p s x1 x2 T) (fX7_setPart p s x1 x2 (uz T)) := by
  unfold tX7_setPart fX7_setPart
  repeat (first | with_reducible exact sm9_n | with_reducible exact sm9_s | with_reducible refine sm9_if ?_ ?_ | with_reducible refine sm9_I (fun _ => ?_) | with_reducible refine sm9_J (fun _ => ?_) | with_reducible refine sm9_R (fun _ => ?_) | intro _)
theorem sm_fX7_setCode {p : Nat} {s : Nat} {x1 : Int32} {x2 : Int32} {x3 : Int32} (T : Ts) : Sm (tX7_setCode p s x1 x2 x3 T) (fX7_setCode p s x1 x2 x3 (uz T)) := by
  unfold tX7_setCode fX7_setCode
  repeat (first | with_reducible exact sm9_n | with_reducible exact sm9_s | with_reducible refine sm9_if ?_ ?_ | with_reducible refine sm9_I (fun _ => ?_) | with_reducible refine sm9_J (fun _ => ?_) | with_reducible refine sm9_R (fun _ => ?_) | intro _)
theorem sm_fX7_dropRows {p : Nat} {s : Nat} (T : Ts) : Sm (tX7_dropRows p s T) (fX7_dropRows p s (uz T)) := by
  unfold tX7_dropRows fX7_dropRows
  repeat (first | with_reducible exact sm9_n | with_reducible exact sm9_s | with_reducible refine sm9_if ?_ ?_ | with_reducible refine sm9_I (fun _ => ?_) | with_reducible refine sm9_J (fun _ => ?_) | with_reducible refine sm9_R (fun _ => ?_) | with_reducible refine sm_fX8_clear _ | with_reducible refine sm9_b (sm_fX8_clear _) (fun _ _ => ?_) | with_reducible refine sm_fX10_clear _ | with_reducible refine sm9_b (sm_fX10_clear _) (fun _ _ => ?_) | intro _)
theorem sm_fX5_streamNamed_2 {p : Nat} {x1 : Int64} : ∀ (n : Nat) (y0 : Int32) (T : Ts), Sm (tX5_streamNamed_2 p x1 n y0 T) (fX5_streamNamed_2 p x1 n y0 (uz T)) := by
  intro n
  induction n with
  | zero => intros; exact sm9_n
  | succ n ih =>
    intro y0 T
    rw [tX5_streamNamed_2, fX5_streamNamed_2]
    repeat (first | with_reducible exact sm9_n | with_reducible exact sm9_s | with_reducible refine sm9_if ?_ ?_ | with_reducible refine sm9_I (fun _ => ?_) | with_reducible refine sm9_J (fun _ => ?_) | with_reducible refine sm9_R (fun _ => ?_) | with_reducible exact ih _ _ | with_reducible refine sm9_b (ih _ _) (fun _ _ => ?_) | intro _)
theorem sm_fX5_streamNamed {p : Nat} {x1 : Int64} (T : Ts) : Sm (tX5_streamNamed p x1 T) (fX5_streamNamed p x1 (uz T)) := by
  unfold tX5_streamNamed fX5_streamNamed
  repeat (first | with_reducible exact sm9_n | with_reducible exact sm9_s | with_reducible refine sm9_if ?_ ?_ | with_reducible refine sm9_I (fun _ => ?_) | with_reducible refine sm9_J (fun _ => ?_) | with_reducible refine sm9_R (fun _ => ?_) | with_reducible refine sm_fX5_streamNamed_2 _ _ _ | with_reducible refine sm9_b (sm_fX5_streamNamed_2 _ _ _) (fun _ _ => ?_) | intro _)
theorem sm_fX5_emit {p : Nat} {x1 : Int32} {x2 : Int64} (T : Ts) : Sm (tX5_emit p x1 x2 T) (fX5_emit p x1 x2 (uz T)) := by
  unfold tX5_emit fX5_emit
  repeat (first | with_reducible exact sm9_n | with_reducible exact sm9_s | with_reducible refine sm9_if ?_ ?_ | with_reducible refine sm9_I (fun _ => ?_) | with_reducible refine sm9_J (fun _ => ?_) | with_reducible refine sm9_R (fun _ => ?_) | intro _)
theorem sm_fX1_start_38 {p1 : Nat} : ∀ (n : Nat) (y0 : Int32) (T : Ts), Sm (tX1_start_38 p1 n y0 T) (fX1_start_38 p1 n y0 (uz T)) := by
  intro n
  induction n with
  | zero => intros; exact sm9_n
  | succ n ih =>
    intro y0 T
    rw [tX1_start_38, fX1_start_38]
    repeat (first | with_reducible exact sm9_n | with_reducible exact sm9_s | with_reducible refine sm9_if ?_ ?_ | with_reducible refine sm9_I (fun _ => ?_) | with_reducible refine sm9_J (fun _ => ?_) | with_reducible refine sm9_R (fun _ => ?_) | with_reducible exact ih _ _ | with_reducible refine sm9_b (ih _ _) (fun _ _ => ?_) | intro _)
theorem sm_fX1_start_7 {p1 : Nat} : ∀ (n : Nat) (y0 : Int32) (T : Ts), Sm (tX1_start_7 p1 n y0 T) (fX1_start_7 p1 n y0 (uz T)) := by
  intro n
  induction n with
  | zero => intros; exact sm9_n
  | succ n ih =>
    intro y0 T
    rw [tX1_start_7, fX1_start_7]
    repeat (first | with_reducible exact sm9_n | with_reducible exact sm9_s | with_reducible refine sm9_if ?_ ?_ | with_reducible refine sm9_I (fun _ => ?_) | with_reducible refine sm9_J (fun _ => ?_) | with_reducible refine sm9_R (fun _ => ?_) | with_reducible refine sm_fX7_dropRows _ | with_reducible refine sm9_b (sm_fX7_dropRows _) (fun _ _ => ?_) | with_reducible refine sm_fX1_start_38 _ _ _ | with_reducible refine sm9_b (sm_fX1_start_38 _ _ _) (fun _ _ => ?_) | with_reducible exact ih _ _ | with_reducible refine sm9_b (ih _ _) (fun _ _ => ?_) | intro _)
theorem sm_fX1_start {p1 : Nat} (T : Ts) : Sm (tX1_start p1 T) (fX1_start p1 (uz T)) := by
  unfold tX1_start fX1_start
  repeat (first | with_reducible exact sm9_n | with_reducible exact sm9_s | with_reducible refine sm9_if ?_ ?_ | with_reducible refine sm9_I (fun _ => ?_) | with_reducible refine sm9_J (fun _ => ?_) | with_reducible refine sm9_R (fun _ => ?_) | with_reducible refine sm_fX1_start_7 _ _ _ | with_reducible refine sm9_b (sm_fX1_start_7 _ _ _) (fun _ _ => ?_) | intro _)
theorem sm_fX11_isLetter {x0 : Int32} (T : Ts) : Sm (tX11_isLetter x0 T) (fX11_isLetter x0 (uz T)) := by
  unfold tX11_isLetter fX11_isLetter
  repeat (first | with_reducible exact sm9_n | with_reducible exact sm9_s | with_reducible refine sm9_if ?_ ?_ | with_reducible refine sm9_I (fun _ => ?_) | with_reducible refine sm9_J (fun _ => ?_) | with_reducible refine sm9_R (fun _ => ?_) | intro _)
theorem sm_fX11_isDigit {x0 : Int32} (T : Ts) : Sm (tX11_isDigit x0 T) (fX11_isDigit x0 (uz T)) := by
  unfold tX11_isDigit fX11_isDigit
  repeat (first | with_reducible exact sm9_n | with_reducible exact sm9_s | with_reducible refine sm9_if ?_ ?_ | with_reducible refine sm9_I (fun _ => ?_) | with_reducible refine sm9_J (fun _ => ?_) | with_reducible refine sm9_R (fun _ => ?_) | intro _)
theorem sm_fX11_isWordByte {x0 : Int32} (T : Ts) : Sm (tX11_isWordByte x0 T) (fX11_isWordByte x0 (uz T)) := by
  unfold tX11_isWordByte fX11_isWordByte
  repeat (first | with_reducible exact sm9_n | with_reducible exact sm9_s | with_reducible refine sm9_if ?_ ?_ | with_reducible refine sm9_I (fun _ => ?_) | with_reducible refine sm9_J (fun _ => ?_) | with_reducible refine sm9_R (fun _ => ?_) | with_reducible refine sm_fX11_isLetter _ | with_reducible refine sm9_b (sm_fX11_isLetter _) (fun _ _ => ?_) | with_reducible refine sm_fX11_isDigit _ | with_reducible refine sm9_b (sm_fX11_isDigit _) (fun _ _ => ?_) | intro _)
theorem sm_fX9_addToken {x1 : Int32} {x2 : Int32} {x3 : Int64} (T : Ts) : Sm (tX9_addToken x1 x2 x3 T) (fX9_addToken x1 x2 x3 (uz T)) := by
  unfold tX9_addToken fX9_addToken
  repeat (first | with_reducible exact sm9_n | with_reducible exact sm9_s | with_reducible refine sm9_if ?_ ?_ | with_reducible refine sm9_I (fun _ => ?_) | with_reducible refine sm9_J (fun _ => ?_) | with_reducible refine sm9_R (fun _ => ?_) | intro _)
theorem sm_fX9_scanWord_47 {x2 : Int32} {x3 : Int32} : ∀ (n : Nat) (y0 : Int32) (y1 : Int64) (y2 : Int32) (y3 : Int32) (T : Ts), Sm (tX9_scanWord_47 x2 x3 n y0 y1 y2 y3 T) (fX9_scanWord_47 x2 x3 n y0 y1 y2 y3 (uz T)) := by
  intro n
  induction n with
  | zero => intros; exact sm9_n
  | succ n ih =>
    intro y0 y1 y2 y3 T
    rw [tX9_scanWord_47, fX9_scanWord_47]
    repeat (first | with_reducible exact sm9_n | with_reducible exact sm9_s | with_reducible refine sm9_if ?_ ?_ | with_reducible refine sm9_I (fun _ => ?_) | with_reducible refine sm9_J (fun _ => ?_) | with_reducible refine sm9_R (fun _ => ?_) | with_reducible refine sm_fX9_addToken _ | with_reducible refine sm9_b (sm_fX9_addToken _) (fun _ _ => ?_) | with_reducible exact ih _ _ _ _ _ | with_reducible refine sm9_b (ih _ _ _ _ _) (fun _ _ => ?_) | intro _)
theorem sm_fX9_scanWord_6 {x2 : Int32} {x3 : Int32} : ∀ (n : Nat) (y0 : Int32) (y1 : Int64) (T : Ts), Sm (tX9_scanWord_6 x2 x3 n y0 y1 T) (fX9_scanWord_6 x2 x3 n y0 y1 (uz T)) := by
  intro n
  induction n with
  | zero => intros; exact sm9_n
  | succ n ih =>
    intro y0 y1 T
    rw [tX9_scanWord_6, fX9_scanWord_6]
    repeat (first | with_reducible exact sm9_n | with_reducible exact sm9_s | with_reducible refine sm9_if ?_ ?_ | with_reducible refine sm9_I (fun _ => ?_) | with_reducible refine sm9_J (fun _ => ?_) | with_reducible refine sm9_R (fun _ => ?_) | with_reducible refine sm_fX11_isWordByte _ | with_reducible refine sm9_b (sm_fX11_isWordByte _) (fun _ _ => ?_) | with_reducible refine sm_fX9_scanWord_47 _ _ _ _ _ _ | with_reducible refine sm9_b (sm_fX9_scanWord_47 _ _ _ _ _ _) (fun _ _ => ?_) | with_reducible exact ih _ _ _ | with_reducible refine sm9_b (ih _ _ _) (fun _ _ => ?_) | intro _)
theorem sm_fX9_scanWord {x2 : Int32} {x3 : Int32} (T : Ts) : Sm (tX9_scanWord x2 x3 T) (fX9_scanWord x2 x3 (uz T)) := by
  unfold tX9_scanWord fX9_scanWord
  repeat (first | with_reducible exact sm9_n | with_reducible exact sm9_s | with_reducible refine sm9_if ?_ ?_ | with_reducible refine sm9_I (fun _ => ?_) | with_reducible refine sm9_J (fun _ => ?_) | with_reducible refine sm9_R (fun _ => ?_) | with_reducible refine sm_fX9_scanWord_6 _ _ _ _ | with_reducible refine sm9_b (sm_fX9_scanWord_6 _ _ _ _) (fun _ _ => ?_) | intro _)
theorem sm_fX9_scanNumber_45 {x2 : Int32} {x3 : Int32} {y4 : Int32} {y5 : Int64} (T : Ts) : Sm (tX9_scanNumber_45 x2 x3 y4 y5 T) (fX9_scanNumber_45 x2 x3 y4 y5 (uz T)) := by
  unfold tX9_scanNumber_45 fX9_scanNumber_45
  repeat (first | with_reducible exact sm9_n | with_reducible exact sm9_s | with_reducible refine sm9_if ?_ ?_ | with_reducible refine sm9_I (fun _ => ?_) | with_reducible refine sm9_J (fun _ => ?_) | with_reducible refine sm9_R (fun _ => ?_) | with_reducible refine sm_fX9_addToken _ | with_reducible refine sm9_b (sm_fX9_addToken _) (fun _ _ => ?_) | intro _)
theorem sm_fX9_scanNumber_6 {x2 : Int32} {x3 : Int32} : ∀ (n : Nat) (y0 : Int32) (y1 : Int64) (T : Ts), Sm (tX9_scanNumber_6 x2 x3 n y0 y1 T) (fX9_scanNumber_6 x2 x3 n y0 y1 (uz T)) := by
  intro n
  induction n with
  | zero => intros; exact sm9_n
  | succ n ih =>
    intro y0 y1 T
    rw [tX9_scanNumber_6, fX9_scanNumber_6]
    repeat (first | with_reducible exact sm9_n | with_reducible exact sm9_s | with_reducible refine sm9_if ?_ ?_ | with_reducible refine sm9_I (fun _ => ?_) | with_reducible refine sm9_J (fun _ => ?_) | with_reducible refine sm9_R (fun _ => ?_) | with_reducible refine sm_fX11_isDigit _ | with_reducible refine sm9_b (sm_fX11_isDigit _) (fun _ _ => ?_) | with_reducible refine sm_fX9_scanNumber_45 _ | with_reducible refine sm9_b (sm_fX9_scanNumber_45 _) (fun _ _ => ?_) | with_reducible exact ih _ _ _ | with_reducible refine sm9_b (ih _ _ _) (fun _ _ => ?_) | intro _)
theorem sm_fX9_scanNumber {x2 : Int32} {x3 : Int32} (T : Ts) : Sm (tX9_scanNumber x2 x3 T) (fX9_scanNumber x2 x3 (uz T)) := by
  unfold tX9_scanNumber fX9_scanNumber
  repeat (first | with_reducible exact sm9_n | with_reducible exact sm9_s | with_reducible refine sm9_if ?_ ?_ | with_reducible refine sm9_I (fun _ => ?_) | with_reducible refine sm9_J (fun _ => ?_) | with_reducible refine sm9_R (fun _ => ?_) | with_reducible refine sm_fX9_scanNumber_6 _ _ _ _ | with_reducible refine sm9_b (sm_fX9_scanNumber_6 _ _ _ _) (fun _ _ => ?_) | intro _)
theorem sm_fX9_scanToken_63 {x2 : Int32} {x3 : Int32} {y4 : Int32} {z0 : Int32} (T : Ts) : Sm (tX9_scanToken_63 x2 x3 y4 z0 T) (fX9_scanToken_63 x2 x3 y4 z0 (uz T)) := by
  unfold tX9_scanToken_63 fX9_scanToken_63
  repeat (first | with_reducible exact sm9_n | with_reducible exact sm9_s | with_reducible refine sm9_if ?_ ?_ | with_reducible refine sm9_I (fun _ => ?_) | with_reducible refine sm9_J (fun _ => ?_) | with_reducible refine sm9_R (fun _ => ?_) | with_reducible refine sm_fX9_addToken _ | with_reducible refine sm9_b (sm_fX9_addToken _) (fun _ _ => ?_) | intro _)
theorem sm_fX9_scanToken {x2 : Int32} {x3 : Int32} (T : Ts) : Sm (tX9_scanToken x2 x3 T) (fX9_scanToken x2 x3 (uz T)) := by
  unfold tX9_scanToken fX9_scanToken
  repeat (first | with_reducible exact sm9_n | with_reducible exact sm9_s | with_reducible refine sm9_if ?_ ?_ | with_reducible refine sm9_I (fun _ => ?_) | with_reducible refine sm9_J (fun _ => ?_) | with_reducible refine sm9_R (fun _ => ?_) | with_reducible refine sm_fX11_isLetter _ | with_reducible refine sm9_b (sm_fX11_isLetter _) (fun _ _ => ?_) | with_reducible refine sm_fX11_isDigit _ | with_reducible refine sm9_b (sm_fX11_isDigit _) (fun _ _ => ?_) | with_reducible refine sm_fX9_scanWord _ | with_reducible refine sm9_b (sm_fX9_scanWord _) (fun _ _ => ?_) | with_reducible refine sm_fX9_scanNumber _ | with_reducible refine sm9_b (sm_fX9_scanNumber _) (fun _ _ => ?_) | with_reducible refine sm_fX9_scanToken_63 _ | with_reducible refine sm9_b (sm_fX9_scanToken_63 _) (fun _ _ => ?_) | intro _)
theorem sm_fX9_scan_18 {x2 : Int32} : ∀ (n : Nat) (y0 : Int32) (y1 : Int32) (y2 : Int32) (T : Ts), Sm (tX9_scan_18 x2 n y0 y1 y2 T) (fX9_scan_18 x2 n y0 y1 y2 (uz T)) := by
  intro n
  induction n with
  | zero => intros; exact sm9_n
  | succ n ih =>
    intro y0 y1 y2 T
    rw [tX9_scan_18, fX9_scan_18]
    repeat (first | with_reducible exact sm9_n | with_reducible exact sm9_s | with_reducible refine sm9_if ?_ ?_ | with_reducible refine sm9_I (fun _ => ?_) | with_reducible refine sm9_J (fun _ => ?_) | with_reducible refine sm9_R (fun _ => ?_) | with_reducible refine sm_fX9_addToken _ | with_reducible refine sm9_b (sm_fX9_addToken _) (fun _ _ => ?_) | with_reducible refine sm_fX9_scanToken _ | with_reducible refine sm9_b (sm_fX9_scanToken _) (fun _ _ => ?_) | with_reducible exact ih _ _ _ _ | with_reducible refine sm9_b (ih _ _ _ _) (fun _ _ => ?_) | intro _)
theorem sm_fX9_scan {x2 : Int32} (T : Ts) : Sm (tX9_scan x2 T) (fX9_scan x2 (uz T)) := by
  unfold tX9_scan fX9_scan
  repeat (first | with_reducible exact sm9_n | with_reducible exact sm9_s | with_reducible refine sm9_if ?_ ?_ | with_reducible refine sm9_I (fun _ => ?_) | with_reducible refine sm9_J (fun _ => ?_) | with_reducible refine sm9_R (fun _ => ?_) | with_reducible refine sm_fX9_scan_18 _ _ _ _ _ | with_reducible refine sm9_b (sm_fX9_scan_18 _ _ _ _ _) (fun _ _ => ?_) | intro _)
theorem sm_fX3_report {x1 : Int32} {x2 : Int32} (T : Ts) : Sm (tX3_report x1 x2 T) (fX3_report x1 x2 (uz T)) := by
  unfold tX3_report fX3_report
  repeat (first | with_reducible exact sm9_n | with_reducible exact sm9_s | with_reducible refine sm9_if ?_ ?_ | with_reducible refine sm9_I (fun _ => ?_) | with_reducible refine sm9_J (fun _ => ?_) | with_reducible refine sm9_R (fun _ => ?_) | intro _)
theorem sm_fX3_begin {p1 : Nat} (T : Ts) : Sm (tX3_begin p1 T) (fX3_begin p1 (uz T)) := by
  unfold tX3_begin fX3_begin
  repeat (first | with_reducible exact sm9_n | with_reducible exact sm9_s | with_reducible refine sm9_if ?_ ?_ | with_reducible refine sm9_I (fun _ => ?_) | with_reducible refine sm9_J (fun _ => ?_) | with_reducible refine sm9_R (fun _ => ?_) | intro _)
theorem sm_fX3_startStream {x1 : Int32} (T : Ts) : Sm (tX3_startStream x1 T) (fX3_startStream x1 (uz T)) := by
  unfold tX3_startStream fX3_startStream
  repeat (first | with_reducible exact sm9_n | with_reducible exact sm9_s | with_reducible refine sm9_if ?_ ?_ | with_reducible refine sm9_I (fun _ => ?_) | with_reducible refine sm9_J (fun _ => ?_) | with_reducible refine sm9_R (fun _ => ?_) | with_reducible refine sm_fX7_clear _ | with_reducible refine sm9_b (sm_fX7_clear _) (fun _ _ => ?_) | with_reducible refine sm_fX3_report _ | with_reducible refine sm9_b (sm_fX3_report _) (fun _ _ => ?_) | intro _)
theorem sm_fX3_startCheck {x1 : Int32} (T : Ts) : Sm (tX3_startCheck x1 T) (fX3_startCheck x1 (uz T)) := by
  unfold tX3_startCheck fX3_startCheck
  repeat (first | with_reducible exact sm9_n | with_reducible exact sm9_s | with_reducible refine sm9_if ?_ ?_ | with_reducible refine sm9_I (fun _ => ?_) | with_reducible refine sm9_J (fun _ => ?_) | with_reducible refine sm9_R (fun _ => ?_) | with_reducible refine sm_fX3_report _ | with_reducible refine sm9_b (sm_fX3_report _) (fun _ _ => ?_) | intro _)
theorem sm_fX3_startWork {x1 : Int32} {x2 : Int32} (T : Ts) : Sm (tX3_startWork x1 x2 T) (fX3_startWork x1 x2 (uz T)) := by
  unfold tX3_startWork fX3_startWork
  repeat (first | with_reducible exact sm9_n | with_reducible exact sm9_s | with_reducible refine sm9_if ?_ ?_ | with_reducible refine sm9_I (fun _ => ?_) | with_reducible refine sm9_J (fun _ => ?_) | with_reducible refine sm9_R (fun _ => ?_) | intro _)
theorem sm_fX3_addColumn_38 {x1 : Int64} (T : Ts) : Sm (tX3_addColumn_38 x1 T) (fX3_addColumn_38 x1 (uz T)) := by
  unfold tX3_addColumn_38 fX3_addColumn_38
  repeat (first | with_reducible exact sm9_n | with_reducible exact sm9_s | with_reducible refine sm9_if ?_ ?_ | with_reducible refine sm9_I (fun _ => ?_) | with_reducible refine sm9_J (fun _ => ?_) | with_reducible refine sm9_R (fun _ => ?_) | intro _)
theorem sm_fX3_addColumn_2 {x1 : Int64} : ∀ (n : Nat) (y0 : Int32) (T : Ts), Sm (tX3_addColumn_2 x1 n y0 T) (fX3_addColumn_2 x1 n y0 (uz T)) := by
  intro n
  induction n with
  | zero => intros; exact sm9_n
  | succ n ih =>
    intro y0 T
    rw [tX3_addColumn_2, fX3_addColumn_2]
    repeat (first | with_reducible exact sm9_n | with_reducible exact sm9_s | with_reducible refine sm9_if ?_ ?_ | with_reducible refine sm9_I (fun _ => ?_) | with_reducible refine sm9_J (fun _ => ?_) | with_reducible refine sm9_R (fun _ => ?_) | with_reducible refine sm_fX3_addColumn_38 _ | with_reducible refine sm9_b (sm_fX3_addColumn_38 _) (fun _ _ => ?_) | with_reducible exact ih _ _ | with_reducible refine sm9_b (ih _ _) (fun _ _ => ?_) | intro _)
theorem sm_fX3_addColumn {x1 : Int64} (T : Ts) : Sm (tX3_addColumn x1 T) (fX3_addColumn x1 (uz T)) := by
  unfold tX3_addColumn fX3_addColumn
  repeat (first | with_reducible exact sm9_n | with_reducible exact sm9_s | with_reducible refine sm9_if ?_ ?_ | with_reducible refine sm9_I (fun _ => ?_) | with_reducible refine sm9_J (fun _ => ?_) | with_reducible refine sm9_R (fun _ => ?_) | with_reducible refine sm_fX3_addColumn_2 _ _ _ | with_reducible refine sm9_b (sm_fX3_addColumn_2 _ _ _) (fun _ _ => ?_) | intro _)
theorem sm_fX3_nameColumn {x1 : Int64} {x3 : Int32} (T : Ts) : Sm (tX3_nameColumn x1 x3 T) (fX3_nameColumn x1 x3 (uz T)) := by
  unfold tX3_nameColumn fX3_nameColumn
  repeat (first | with_reducible exact sm9_n | with_reducible exact sm9_s | with_reducible refine sm9_if ?_ ?_ | with_reducible refine sm9_I (fun _ => ?_) | with_reducible refine sm9_J (fun _ => ?_) | with_reducible refine sm9_R (fun _ => ?_) | with_reducible refine sm_fX3_report _ | with_reducible refine sm9_b (sm_fX3_report _) (fun _ _ => ?_) | with_reducible refine sm_fX3_addColumn _ | with_reducible refine sm9_b (sm_fX3_addColumn _) (fun _ _ => ?_) | intro _)
theorem sm_fX3_nameStream {x1 : Int64} {x3 : Int32} (T : Ts) : Sm (tX3_nameStream x1 x3 T) (fX3_nameStream x1 x3 (uz T)) := by
  unfold tX3_nameStream fX3_nameStream
  repeat (first | with_reducible exact sm9_n | with_reducible exact sm9_s | with_reducible refine sm9_if ?_ ?_ | with_reducible refine sm9_I (fun _ => ?_) | with_reducible refine sm9_J (fun _ => ?_) | with_reducible refine sm9_R (fun _ => ?_) | with_reducible refine sm_fX5_streamNamed _ | with_reducible refine sm9_b (sm_fX5_streamNamed _) (fun _ _ => ?_) | with_reducible refine sm_fX3_report _ | with_reducible refine sm9_b (sm_fX3_report _) (fun _ _ => ?_) | intro _)
theorem sm_fX3_setFirstInput {x1 : Int64} {x3 : Int32} (T : Ts) : Sm (tX3_setFirstInput x1 x3 T) (fX3_setFirstInput x1 x3 (uz T)) := by
  unfold tX3_setFirstInput fX3_setFirstInput
  repeat (first | with_reducible exact sm9_n | with_reducible exact sm9_s | with_reducible refine sm9_if ?_ ?_ | with_reducible refine sm9_I (fun _ => ?_) | with_reducible refine sm9_J (fun _ => ?_) | with_reducible refine sm9_R (fun _ => ?_) | with_reducible refine sm_fX7_copyColumns _ | with_reducible refine sm9_b (sm_fX7_copyColumns _) (fun _ _ => ?_) | with_reducible refine sm_fX5_streamNamed _ | with_reducible refine sm9_b (sm_fX5_streamNamed _) (fun _ _ => ?_) | with_reducible refine sm_fX3_report _ | with_reducible refine sm9_b (sm_fX3_report _) (fun _ _ => ?_) | intro _)
theorem sm_fX3_setSecondInput {x1 : Int64} {x3 : Int32} (T : Ts) : Sm (tX3_setSecondInput x1 x3 T) (fX3_setSecondInput x1 x3 (uz T)) := by
  unfold tX3_setSecondInput fX3_setSecondInput
  repeat (first | with_reducible exact sm9_n | with_reducible exact sm9_s | with_reducible refine sm9_if ?_ ?_ | with_reducible refine sm9_I (fun _ => ?_) | with_reducible refine sm9_J (fun _ => ?_) | with_reducible refine sm9_R (fun _ => ?_) | with_reducible refine sm_fX5_streamNamed _ | with_reducible refine sm9_b (sm_fX5_streamNamed _) (fun _ _ => ?_) | with_reducible refine sm_fX3_report _ | with_reducible refine sm9_b (sm_fX3_report _) (fun _ _ => ?_) | intro _)
theorem sm_fX3_setKey_48 {x1 : Int64} {x3 : Int32} {z0 : Int32} {zp1 : Nat} {zs1 : Nat} (T : Ts) : Sm (tX3_setKey_48 x1 x3 z0 zp1 zs1 T) (fX3_setKey_48 x1 x3 z0 zp1 zs1 (uz T)) := by
  unfold tX3_setKey_48 fX3_setKey_48
  repeat (first | with_reducible exact sm9_n | with_reducible exact sm9_s | with_reducible refine sm9_if ?_ ?_ | with_reducible refine sm9_I (fun _ => ?_) | with_reducible refine sm9_J (fun _ => ?_) | with_reducible refine sm9_R (fun _ => ?_) | with_reducible refine sm_fX3_report _ | with_reducible refine sm9_b (sm_fX3_report _) (fun _ _ => ?_) | with_reducible refine sm_fX3_addColumn _ | with_reducible refine sm9_b (sm_fX3_addColumn _) (fun _ _ => ?_) | intro _)
theorem sm_fX3_setKey {x1 : Int64} {x3 : Int32} (T : Ts) : Sm (tX3_setKey x1 x3 T) (fX3_setKey x1 x3 (uz T)) := by
  unfold tX3_setKey fX3_setKey
  repeat (first | with_reducible exact sm9_n | with_reducible exact sm9_s | with_reducible refine sm9_if ?_ ?_ | with_reducible refine sm9_I (fun _ => ?_) | with_reducible refine sm9_J (fun _ => ?_) | with_reducible refine sm9_R (fun _ => ?_) | with_reducible refine sm_fX7_columnNamed _ | with_reducible refine sm9_b (sm_fX7_columnNamed _) (fun _ _ => ?_) | with_reducible refine sm_fX3_setKey_48 _ | with_reducible refine sm9_b (sm_fX3_setKey_48 _) (fun _ _ => ?_) | intro _)
theorem sm_fX3_pickColumn {x1 : Int64} {x3 : Int32} (T : Ts) : Sm (tX3_pickColumn x1 x3 T) (fX3_pickColumn x1 x3 (uz T)) := by
  unfold tX3_pickColumn fX3_pickColumn
  repeat (first | with_reducible exact sm9_n | with_reducible exact sm9_s | with_reducible refine sm9_if ?_ ?_ | with_reducible refine sm9_I (fun _ => ?_) | with_reducible refine sm9_J (fun _ => ?_) | with_reducible refine sm9_R (fun _ => ?_) | with_reducible refine sm_fX7_columnNamed _ | with_reducible refine sm9_b (sm_fX7_columnNamed _) (fun _ _ => ?_) | with_reducible refine sm_fX7_setPart _ | with_reducible refine sm9_b (sm_fX7_setPart _) (fun _ _ => ?_) | with_reducible refine sm_fX3_report _ | with_reducible refine sm9_b (sm_fX3_report _) (fun _ _ => ?_) | with_reducible refine sm_fX3_addColumn _ | with_reducible refine sm9_b (sm_fX3_addColumn _) (fun _ _ => ?_) | intro _)
theorem sm_fX3_lookAtName {x1 : Int32} {x2 : Int64} {x4 : Int32} (T : Ts) : Sm (tX3_lookAtName x1 x2 x4 T) (fX3_lookAtName x1 x2 x4 (uz T)) := by
  unfold tX3_lookAtName fX3_lookAtName
  repeat (first | with_reducible exact sm9_n | with_reducible exact sm9_s | with_reducible refine sm9_if ?_ ?_ | with_reducible refine sm9_I (fun _ => ?_) | with_reducible refine sm9_J (fun _ => ?_) | with_reducible refine sm9_R (fun _ => ?_) | with_reducible refine sm_fX3_nameColumn _ | with_reducible refine sm9_b (sm_fX3_nameColumn _) (fun _ _ => ?_) | with_reducible refine sm_fX3_nameStream _ | with_reducible refine sm9_b (sm_fX3_nameStream _) (fun _ _ => ?_) | with_reducible refine sm_fX3_setFirstInput _ | with_reducible refine sm9_b (sm_fX3_setFirstInput _) (fun _ _ => ?_) | with_reducible refine sm_fX3_setSecondInput _ | with_reducible refine sm9_b (sm_fX3_setSecondInput _) (fun _ _ => ?_) | with_reducible refine sm_fX3_setKey _ | with_reducible refine sm9_b (sm_fX3_setKey _) (fun _ _ => ?_) | with_reducible refine sm_fX3_pickColumn _ | with_reducible refine sm9_b (sm_fX3_pickColumn _) (fun _ _ => ?_) | intro _)
theorem sm_fX3_lookAtRange_20 {x1 : Int32} {x2 : Int64} {x4 : Int32} {z0 : Int64} (T : Ts) : Sm (tX3_lookAtRange_20 x1 x2 x4 z0 T) (fX3_lookAtRange_20 x1 x2 x4 z0 (uz T)) := by
  unfold tX3_lookAtRange_20 fX3_lookAtRange_20
  repeat (first | with_reducible exact sm9_n | with_reducible exact sm9_s | with_reducible refine sm9_if ?_ ?_ | with_reducible refine sm9_I (fun _ => ?_) | with_reducible refine sm9_J (fun _ => ?_) | with_reducible refine sm9_R (fun _ => ?_) | with_reducible refine sm_fX3_report _ | with_reducible refine sm9_b (sm_fX3_report _) (fun _ _ => ?_) | intro _)
theorem sm_fX3_lookAtRange {x1 : Int32} {x2 : Int64} {x4 : Int32} (T : Ts) : Sm (tX3_lookAtRange x1 x2 x4 T) (fX3_lookAtRange x1 x2 x4 (uz T)) := by
  unfold tX3_lookAtRange fX3_lookAtRange
  repeat (first | with_reducible exact sm9_n | with_reducible exact sm9_s | with_reducible refine sm9_if ?_ ?_ | with_reducible refine sm9_I (fun _ => ?_) | with_reducible refine sm9_J (fun _ => ?_) | with_reducible refine sm9_R (fun _ => ?_) | with_reducible refine sm_fX3_lookAtRange_20 _ | with_reducible refine sm9_b (sm_fX3_lookAtRange_20 _) (fun _ _ => ?_) | intro _)
theorem sm_fX3_setTotal {x1 : Int32} (T : Ts) : Sm (tX3_setTotal x1 T) (fX3_setTotal x1 (uz T)) := by
  unfold tX3_setTotal fX3_setTotal
  repeat (first | with_reducible exact sm9_n | with_reducible exact sm9_s | with_reducible refine sm9_if ?_ ?_ | with_reducible refine sm9_I (fun _ => ?_) | with_reducible refine sm9_J (fun _ => ?_) | with_reducible refine sm9_R (fun _ => ?_) | with_reducible refine sm_fX7_setPart _ | with_reducible refine sm9_b (sm_fX7_setPart _) (fun _ _ => ?_) | intro _)
theorem sm_fX3_startExpression  (T : Ts) : Sm (tX3_startExpression  T) (fX3_startExpression  (uz T)) := by
  unfold tX3_startExpression fX3_startExpression
  repeat (first | with_reducible exact sm9_n | with_reducible exact sm9_s | with_reducible refine sm9_if ?_ ?_ | with_reducible refine sm9_I (fun _ => ?_) | with_reducible refine sm9_J (fun _ => ?_) | with_reducible refine sm9_R (fun _ => ?_) | intro _)
theorem sm_fX3_endExpression  (T : Ts) : Sm (tX3_endExpression  T) (fX3_endExpression  (uz T)) := by
  unfold tX3_endExpression fX3_endExpression
  repeat (first | with_reducible exact sm9_n | with_reducible exact sm9_s | with_reducible refine sm9_if ?_ ?_ | with_reducible refine sm9_I (fun _ => ?_) | with_reducible refine sm9_J (fun _ => ?_) | with_reducible refine sm9_R (fun _ => ?_) | with_reducible refine sm_fX7_setCode _ | with_reducible refine sm9_b (sm_fX7_setCode _) (fun _ _ => ?_) | intro _)
theorem sm_fX3_emit {x1 : Int32} {x2 : Int64} (T : Ts) : Sm (tX3_emit x1 x2 T) (fX3_emit x1 x2 (uz T)) := by
  unfold tX3_emit fX3_emit
  repeat (first | with_reducible exact sm9_n | with_reducible exact sm9_s | with_reducible refine sm9_if ?_ ?_ | with_reducible refine sm9_I (fun _ => ?_) | with_reducible refine sm9_J (fun _ => ?_) | with_reducible refine sm9_R (fun _ => ?_) | with_reducible refine sm_fX5_emit _ | with_reducible refine sm9_b (sm_fX5_emit _) (fun _ _ => ?_) | intro _)
theorem sm_fX3_useColumn {x1 : Int64} {x3 : Int32} (T : Ts) : Sm (tX3_useColumn x1 x3 T) (fX3_useColumn x1 x3 (uz T)) := by
  unfold tX3_useColumn fX3_useColumn
  repeat (first | with_reducible exact sm9_n | with_reducible exact sm9_s | with_reducible refine sm9_if ?_ ?_ | with_reducible refine sm9_I (fun _ => ?_) | with_reducible refine sm9_J (fun _ => ?_) | with_reducible refine sm9_R (fun _ => ?_) | with_reducible refine sm_fX7_columnNamed _ | with_reducible refine sm9_b (sm_fX7_columnNamed _) (fun _ _ => ?_) | with_reducible refine sm_fX5_emit _ | with_reducible refine sm9_b (sm_fX5_emit _) (fun _ _ => ?_) | with_reducible refine sm_fX3_report _ | with_reducible refine sm9_b (sm_fX3_report _) (fun _ _ => ?_) | intro _)
theorem sm_fX3_endFunction_21 {x1 : Int32} {x2 : Int32} {x3 : Int32} {z0 : Int32} {z1 : Int32} (T : Ts) : Sm (tX3_endFunction_21 x1 x2 x3 z0 z1 T) (fX3_endFunction_21 x1 x2 x3 z0 z1 (uz T)) := by
  unfold tX3_endFunction_21 fX3_endFunction_21
  repeat (first | with_reducible exact sm9_n | with_reducible exact sm9_s | with_reducible refine sm9_if ?_ ?_ | with_reducible refine sm9_I (fun _ => ?_) | with_reducible refine sm9_J (fun _ => ?_) | with_reducible refine sm9_R (fun _ => ?_) | with_reducible refine sm_fX5_emit _ | with_reducible refine sm9_b (sm_fX5_emit _) (fun _ _ => ?_) | with_reducible refine sm_fX3_report _ | with_reducible refine sm9_b (sm_fX3_report _) (fun _ _ => ?_) | intro _)
theorem sm_fX3_endFunction {x1 : Int32} {x2 : Int32} {x3 : Int32} (T : Ts) : Sm (tX3_endFunction x1 x2 x3 T) (fX3_endFunction x1 x2 x3 (uz T)) := by
  unfold tX3_endFunction fX3_endFunction
  repeat (first | with_reducible exact sm9_n | with_reducible exact sm9_s | with_reducible refine sm9_if ?_ ?_ | with_reducible refine sm9_I (fun _ => ?_) | with_reducible refine sm9_J (fun _ => ?_) | with_reducible refine sm9_R (fun _ => ?_) | with_reducible refine sm_fX3_endFunction_21 _ | with_reducible refine sm9_b (sm_fX3_endFunction_21 _) (fun _ _ => ?_) | intro _)
theorem sm_fX3_endCheck {x1 : Int32} (T : Ts) : Sm (tX3_endCheck x1 T) (fX3_endCheck x1 (uz T)) := by
  unfold tX3_endCheck fX3_endCheck
  repeat (first | with_reducible exact sm9_n | with_reducible exact sm9_s | with_reducible refine sm9_if ?_ ?_ | with_reducible refine sm9_I (fun _ => ?_) | with_reducible refine sm9_J (fun _ => ?_) | with_reducible refine sm9_R (fun _ => ?_) | intro _)
theorem sm_fX3_addOtherColumns_2  : ∀ (n : Nat) (y0 : Int32) (T : Ts), Sm (tX3_addOtherColumns_2  n y0 T) (fX3_addOtherColumns_2  n y0 (uz T)) := by
  intro n
  induction n with
  | zero => intros; exact sm9_n
  | succ n ih =>
    intro y0 T
    rw [tX3_addOtherColumns_2, fX3_addOtherColumns_2]
    repeat (first | with_reducible exact sm9_n | with_reducible exact sm9_s | with_reducible refine sm9_if ?_ ?_ | with_reducible refine sm9_I (fun _ => ?_) | with_reducible refine sm9_J (fun _ => ?_) | with_reducible refine sm9_R (fun _ => ?_) | with_reducible refine sm_fX7_columnAt _ | with_reducible refine sm9_b (sm_fX7_columnAt _) (fun _ _ => ?_) | with_reducible refine sm_fX3_report _ | with_reducible refine sm9_b (sm_fX3_report _) (fun _ _ => ?_) | with_reducible refine sm_fX3_addColumn _ | with_reducible refine sm9_b (sm_fX3_addColumn _) (fun _ _ => ?_) | with_reducible exact ih _ _ | with_reducible refine sm9_b (ih _ _) (fun _ _ => ?_) | intro _)
theorem sm_fX3_addOtherColumns  (T : Ts) : Sm (tX3_addOtherColumns  T) (fX3_addOtherColumns  (uz T)) := by
  unfold tX3_addOtherColumns fX3_addOtherColumns
  repeat (first | with_reducible exact sm9_n | with_reducible exact sm9_s | with_reducible refine sm9_if ?_ ?_ | with_reducible refine sm9_I (fun _ => ?_) | with_reducible refine sm9_J (fun _ => ?_) | with_reducible refine sm9_R (fun _ => ?_) | with_reducible refine sm_fX3_addOtherColumns_2 _ _ _ | with_reducible refine sm9_b (sm_fX3_addOtherColumns_2 _ _ _) (fun _ _ => ?_) | intro _)
theorem sm_fX3_endStream_88  (T : Ts) : Sm (tX3_endStream_88  T) (fX3_endStream_88  (uz T)) := by
  unfold tX3_endStream_88 fX3_endStream_88
  repeat (first | with_reducible exact sm9_n | with_reducible exact sm9_s | with_reducible refine sm9_if ?_ ?_ | with_reducible refine sm9_I (fun _ => ?_) | with_reducible refine sm9_J (fun _ => ?_) | with_reducible refine sm9_R (fun _ => ?_) | with_reducible refine sm_fX7_setColumns _ | with_reducible refine sm9_b (sm_fX7_setColumns _) (fun _ _ => ?_) | intro _)
theorem sm_fX3_endStream_63  (T : Ts) : Sm (tX3_endStream_63  T) (fX3_endStream_63  (uz T)) := by
  unfold tX3_endStream_63 fX3_endStream_63
  repeat (first | with_reducible exact sm9_n | with_reducible exact sm9_s | with_reducible refine sm9_if ?_ ?_ | with_reducible refine sm9_I (fun _ => ?_) | with_reducible refine sm9_J (fun _ => ?_) | with_reducible refine sm9_R (fun _ => ?_) | with_reducible refine sm_fX3_report _ | with_reducible refine sm9_b (sm_fX3_report _) (fun _ _ => ?_) | with_reducible refine sm_fX3_endStream_88 _ | with_reducible refine sm9_b (sm_fX3_endStream_88 _) (fun _ _ => ?_) | intro _)
theorem sm_fX3_endStream  (T : Ts) : Sm (tX3_endStream  T) (fX3_endStream  (uz T)) := by
  unfold tX3_endStream fX3_endStream
  repeat (first | with_reducible exact sm9_n | with_reducible exact sm9_s | with_reducible refine sm9_if ?_ ?_ | with_reducible refine sm9_I (fun _ => ?_) | with_reducible refine sm9_J (fun _ => ?_) | with_reducible refine sm9_R (fun _ => ?_) | with_reducible refine sm_fX7_hasColumnsOf _ | with_reducible refine sm9_b (sm_fX7_hasColumnsOf _) (fun _ _ => ?_) | with_reducible refine sm_fX3_report _ | with_reducible refine sm9_b (sm_fX3_report _) (fun _ _ => ?_) | with_reducible refine sm_fX3_addOtherColumns _ | with_reducible refine sm9_b (sm_fX3_addOtherColumns _) (fun _ _ => ?_) | with_reducible refine sm_fX3_endStream_63 _ | with_reducible refine sm9_b (sm_fX3_endStream_63 _) (fun _ _ => ?_) | intro _)
theorem sm_fX4_fail  (T : Ts) : Sm (tX4_fail  T) (fX4_fail  (uz T)) := by
  unfold tX4_fail fX4_fail
  repeat (first | with_reducible exact sm9_n | with_reducible exact sm9_s | with_reducible refine sm9_if ?_ ?_ | with_reducible refine sm9_I (fun _ => ?_) | with_reducible refine sm9_J (fun _ => ?_) | with_reducible refine sm9_R (fun _ => ?_) | intro _)
theorem sm_fX4_advance  (T : Ts) : Sm (tX4_advance  T) (fX4_advance  (uz T)) := by
  unfold tX4_advance fX4_advance
  repeat (first | with_reducible exact sm9_n | with_reducible exact sm9_s | with_reducible refine sm9_if ?_ ?_ | with_reducible refine sm9_I (fun _ => ?_) | with_reducible refine sm9_J (fun _ => ?_) | with_reducible refine sm9_R (fun _ => ?_) | intro _)
theorem sm_fX4_take {x1 : Int32} (T : Ts) : Sm (tX4_take x1 T) (fX4_take x1 (uz T)) := by
  unfold tX4_take fX4_take
  repeat (first | with_reducible exact sm9_n | with_reducible exact sm9_s | with_reducible refine sm9_if ?_ ?_ | with_reducible refine sm9_I (fun _ => ?_) | with_reducible refine sm9_J (fun _ => ?_) | with_reducible refine sm9_R (fun _ => ?_) | with_reducible refine sm_fX4_fail _ | with_reducible refine sm9_b (sm_fX4_fail _) (fun _ _ => ?_) | with_reducible refine sm_fX4_advance _ | with_reducible refine sm9_b (sm_fX4_advance _) (fun _ _ => ?_) | intro _)
theorem sm_fX4_takeInExpression {x1 : Int32} {x2 : Int32} (T : Ts) : Sm (tX4_takeInExpression x1 x2 T) (fX4_takeInExpression x1 x2 (uz T)) := by
  unfold tX4_takeInExpression fX4_takeInExpression
  repeat (first | with_reducible exact sm9_n | with_reducible exact sm9_s | with_reducible refine sm9_if ?_ ?_ | with_reducible refine sm9_I (fun _ => ?_) | with_reducible refine sm9_J (fun _ => ?_) | with_reducible refine sm9_R (fun _ => ?_) | with_reducible refine sm_fX4_fail _ | with_reducible refine sm9_b (sm_fX4_fail _) (fun _ _ => ?_) | with_reducible refine sm_fX4_advance _ | with_reducible refine sm9_b (sm_fX4_advance _) (fun _ _ => ?_) | intro _)
theorem sm_fX4_takeComma {x1 : Int32} (T : Ts) : Sm (tX4_takeComma x1 T) (fX4_takeComma x1 (uz T)) := by
  unfold tX4_takeComma fX4_takeComma
  repeat (first | with_reducible exact sm9_n | with_reducible exact sm9_s | with_reducible refine sm9_if ?_ ?_ | with_reducible refine sm9_I (fun _ => ?_) | with_reducible refine sm9_J (fun _ => ?_) | with_reducible refine sm9_R (fun _ => ?_) | with_reducible refine sm_fX4_take _ | with_reducible refine sm9_b (sm_fX4_take _) (fun _ _ => ?_) | intro _)
theorem sm_fX4_takeName {x1 : Int32} (T : Ts) : Sm (tX4_takeName x1 T) (fX4_takeName x1 (uz T)) := by
  unfold tX4_takeName fX4_takeName
  repeat (first | with_reducible exact sm9_n | with_reducible exact sm9_s | with_reducible refine sm9_if ?_ ?_ | with_reducible refine sm9_I (fun _ => ?_) | with_reducible refine sm9_J (fun _ => ?_) | with_reducible refine sm9_R (fun _ => ?_) | with_reducible refine sm_fX3_lookAtName _ | with_reducible refine sm9_b (sm_fX3_lookAtName _) (fun _ _ => ?_) | with_reducible refine sm_fX4_take _ | with_reducible refine sm9_b (sm_fX4_take _) (fun _ _ => ?_) | intro _)
theorem sm_fX4_takeRange {x1 : Int32} (T : Ts) : Sm (tX4_takeRange x1 T) (fX4_takeRange x1 (uz T)) := by
  unfold tX4_takeRange fX4_takeRange
  repeat (first | with_reducible exact sm9_n | with_reducible exact sm9_s | with_reducible refine sm9_if ?_ ?_ | with_reducible refine sm9_I (fun _ => ?_) | with_reducible refine sm9_J (fun _ => ?_) | with_reducible refine sm9_R (fun _ => ?_) | with_reducible refine sm_fX3_lookAtRange _ | with_reducible refine sm9_b (sm_fX3_lookAtRange _) (fun _ _ => ?_) | with_reducible refine sm_fX4_take _ | with_reducible refine sm9_b (sm_fX4_take _) (fun _ _ => ?_) | intro _)
theorem sm_fX4_takeNames_8 {x1 : Int32} : ∀ (n : Nat) (y0 : Int32) (T : Ts), Sm (tX4_takeNames_8 x1 n y0 T) (fX4_takeNames_8 x1 n y0 (uz T)) := by
  intro n
  induction n with
  | zero => intros; exact sm9_n
  | succ n ih =>
    intro y0 T
    rw [tX4_takeNames_8, fX4_takeNames_8]
    repeat (first | with_reducible exact sm9_n | with_reducible exact sm9_s | with_reducible refine sm9_if ?_ ?_ | with_reducible refine sm9_I (fun _ => ?_) | with_reducible refine sm9_J (fun _ => ?_) | with_reducible refine sm9_R (fun _ => ?_) | with_reducible refine sm_fX4_take _ | with_reducible refine sm9_b (sm_fX4_take _) (fun _ _ => ?_) | with_reducible refine sm_fX4_takeComma _ | with_reducible refine sm9_b (sm_fX4_takeComma _) (fun _ _ => ?_) | with_reducible refine sm_fX4_takeName _ | with_reducible refine sm9_b (sm_fX4_takeName _) (fun _ _ => ?_) | with_reducible exact ih _ _ | with_reducible refine sm9_b (ih _ _) (fun _ _ => ?_) | intro _)
theorem sm_fX4_takeNames {x1 : Int32} (T : Ts) : Sm (tX4_takeNames x1 T) (fX4_takeNames x1 (uz T)) := by
  unfold tX4_takeNames fX4_takeNames
  repeat (first | with_reducible exact sm9_n | with_reducible exact sm9_s | with_reducible refine sm9_if ?_ ?_ | with_reducible refine sm9_I (fun _ => ?_) | with_reducible refine sm9_J (fun _ => ?_) | with_reducible refine sm9_R (fun _ => ?_) | with_reducible refine sm_fX4_take _ | with_reducible refine sm9_b (sm_fX4_take _) (fun _ _ => ?_) | with_reducible refine sm_fX4_takeNames_8 _ _ _ | with_reducible refine sm9_b (sm_fX4_takeNames_8 _ _ _) (fun _ _ => ?_) | intro _)
theorem sm_fX4_secondInput  (T : Ts) : Sm (tX4_secondInput  T) (fX4_secondInput  (uz T)) := by
  unfold tX4_secondInput fX4_secondInput
  repeat (first | with_reducible exact sm9_n | with_reducible exact sm9_s | with_reducible refine sm9_if ?_ ?_ | with_reducible refine sm9_I (fun _ => ?_) | with_reducible refine sm9_J (fun _ => ?_) | with_reducible refine sm9_R (fun _ => ?_) | with_reducible refine sm_fX4_take _ | with_reducible refine sm9_b (sm_fX4_take _) (fun _ _ => ?_) | with_reducible refine sm_fX4_takeName _ | with_reducible refine sm9_b (sm_fX4_takeName _) (fun _ _ => ?_) | intro _)
theorem sm_fX4_kindOfWork {x0 : Int32} (T : Ts) : Sm (tX4_kindOfWork x0 T) (fX4_kindOfWork x0 (uz T)) := by
  unfold tX4_kindOfWork fX4_kindOfWork
  repeat (first | with_reducible exact sm9_n | with_reducible exact sm9_s | with_reducible refine sm9_if ?_ ?_ | with_reducible refine sm9_I (fun _ => ?_) | with_reducible refine sm9_J (fun _ => ?_) | with_reducible refine sm9_R (fun _ => ?_) | intro _)
theorem sm_fX4_takeTotal  (T : Ts) : Sm (tX4_takeTotal  T) (fX4_takeTotal  (uz T)) := by
  unfold tX4_takeTotal fX4_takeTotal
  repeat (first | with_reducible exact sm9_n | with_reducible exact sm9_s | with_reducible refine sm9_if ?_ ?_ | with_reducible refine sm9_I (fun _ => ?_) | with_reducible refine sm9_J (fun _ => ?_) | with_reducible refine sm9_R (fun _ => ?_) | with_reducible refine sm_fX3_setTotal _ | with_reducible refine sm9_b (sm_fX3_setTotal _) (fun _ _ => ?_) | with_reducible refine sm_fX4_fail _ | with_reducible refine sm9_b (sm_fX4_fail _) (fun _ _ => ?_) | with_reducible refine sm_fX4_take _ | with_reducible refine sm9_b (sm_fX4_take _) (fun _ _ => ?_) | intro _)
theorem sm_fX4_function_38 {x1 : Int32} {x2 : Int32} {kE : Int32 → Zs → Option (Unit × Zs)} {kET : Int32 → Ts → Option (Unit × Ts)} (hkE : ∀ (w0 : Int32) (T : Ts), Sm (kET w0 T) (kE w0 (uz T))) : ∀ (n : Nat) (y0 : Int32) (y1 : Int32) (y2 : Int32) (T : Ts), Sm (tX4_function_38 x1 x2 kET n y0 y1 y2 T) (fX4_function_38 x1 x2 kE n y0 y1 y2 (uz T)) := by
  intro n
  induction n with
  | zero => intros; exact sm9_n
  | succ n ih =>
    intro y0 y1 y2 T
    rw [tX4_function_38, fX4_function_38]
    repeat (first | with_reducible exact sm9_n | with_reducible exact sm9_s | with_reducible refine sm9_if ?_ ?_ | with_reducible refine sm9_I (fun _ => ?_) | with_reducible refine sm9_J (fun _ => ?_) | with_reducible refine sm9_R (fun _ => ?_) | with_reducible exact hkE _ _ | with_reducible refine sm9_b (hkE _ _) (fun _ _ => ?_) | with_reducible refine sm_fX3_endFunction _ | with_reducible refine sm9_b (sm_fX3_endFunction _) (fun _ _ => ?_) | with_reducible refine sm_fX4_takeInExpression _ | with_reducible refine sm9_b (sm_fX4_takeInExpression _) (fun _ _ => ?_) | with_reducible exact ih _ _ _ _ | with_reducible refine sm9_b (ih _ _ _ _) (fun _ _ => ?_) | intro _)
theorem sm_fX4_function {x1 : Int32} {x2 : Int32} {kE : Int32 → Zs → Option (Unit × Zs)} {kET : Int32 → Ts → Option (Unit × Ts)} (hkE : ∀ (w0 : Int32) (T : Ts), Sm (kET w0 T) (kE w0 (uz T))) (T : Ts) : Sm (tX4_function x1 x2 kET T) (fX4_function x1 x2 kE (uz T)) := by
  unfold tX4_function fX4_function
  repeat (first | with_reducible exact sm9_n | with_reducible exact sm9_s | with_reducible refine sm9_if ?_ ?_ | with_reducible refine sm9_I (fun _ => ?_) | with_reducible refine sm9_J (fun _ => ?_) | with_reducible refine sm9_R (fun _ => ?_) | with_reducible exact hkE _ _ | with_reducible refine sm9_b (hkE _ _) (fun _ _ => ?_) | with_reducible refine sm_fX4_takeInExpression _ | with_reducible refine sm9_b (sm_fX4_takeInExpression _) (fun _ _ => ?_) | with_reducible refine sm_fX4_function_38 ?_ _ _ _ _ _ | with_reducible refine sm9_b (sm_fX4_function_38 ?_ _ _ _ _ _) (fun _ _ => ?_) | intro _)
theorem sm_fX4_factor {x1 : Int32} {kE : Int32 → Zs → Option (Unit × Zs)} {kET : Int32 → Ts → Option (Unit × Ts)} {kF : Int32 → Zs → Option (Unit × Zs)} {kFT : Int32 → Ts → Option (Unit × Ts)} (hkE : ∀ (w0 : Int32) (T : Ts), Sm (kET w0 T) (kE w0 (uz T))) (hkF : ∀ (w0 : Int32) (T : Ts), Sm (kFT w0 T) (kF w0 (uz T))) (T : Ts) : Sm (tX4_factor x1 kET kFT T) (fX4_factor x1 kE kF (uz T)) := by
  unfold tX4_factor fX4_factor
  repeat (first | with_reducible exact sm9_n | with_reducible exact sm9_s | with_reducible refine sm9_if ?_ ?_ | with_reducible refine sm9_I (fun _ => ?_) | with_reducible refine sm9_J (fun _ => ?_) | with_reducible refine sm9_R (fun _ => ?_) | with_reducible exact hkE _ _ | with_reducible refine sm9_b (hkE _ _) (fun _ _ => ?_) | with_reducible exact hkF _ _ | with_reducible refine sm9_b (hkF _ _) (fun _ _ => ?_) | with_reducible refine sm_fX3_emit _ | with_reducible refine sm9_b (sm_fX3_emit _) (fun _ _ => ?_) | with_reducible refine sm_fX3_useColumn _ | with_reducible refine sm9_b (sm_fX3_useColumn _) (fun _ _ => ?_) | with_reducible refine sm_fX4_fail _ | with_reducible refine sm9_b (sm_fX4_fail _) (fun _ _ => ?_) | with_reducible refine sm_fX4_takeInExpression _ | with_reducible refine sm9_b (sm_fX4_takeInExpression _) (fun _ _ => ?_) | with_reducible refine sm_fX4_function ?_ _ | with_reducible refine sm9_b (sm_fX4_function ?_ _) (fun _ _ => ?_) | intro _)
theorem sm_fX4_product_40 {x1 : Int32} {y2 : Int32} {kF : Int32 → Zs → Option (Unit × Zs)} {kFT : Int32 → Ts → Option (Unit × Ts)} {k7 : Int32 → Zs → Option (Unit × Zs)} {k7T : Int32 → Ts → Option (Unit × Ts)} (hkF : ∀ (w0 : Int32) (T : Ts), Sm (kFT w0 T) (kF w0 (uz T))) (hk7 : ∀ (w0 : Int32) (T : Ts), Sm (k7T w0 T) (k7 w0 (uz T))) (T : Ts) : Sm (tX4_product_40 x1 kFT k7T y2 T) (fX4_product_40 x1 kF k7 y2 (uz T)) := by
  unfold tX4_product_40 fX4_product_40
  repeat (first | with_reducible exact sm9_n | with_reducible exact sm9_s | with_reducible refine sm9_if ?_ ?_ | with_reducible refine sm9_I (fun _ => ?_) | with_reducible refine sm9_J (fun _ => ?_) | with_reducible refine sm9_R (fun _ => ?_) | with_reducible exact hkF _ _ | with_reducible refine sm9_b (hkF _ _) (fun _ _ => ?_) | with_reducible exact hk7 _ _ | with_reducible refine sm9_b (hk7 _ _) (fun _ _ => ?_) | with_reducible refine sm_fX3_emit _ | with_reducible refine sm9_b (sm_fX3_emit _) (fun _ _ => ?_) | with_reducible refine sm_fX4_takeInExpression _ | with_reducible refine sm9_b (sm_fX4_takeInExpression _) (fun _ _ => ?_) | intro _)
theorem sm_fX4_product_7 {x1 : Int32} {kF : Int32 → Zs → Option (Unit × Zs)} {kFT : Int32 → Ts → Option (Unit × Ts)} (hkF : ∀ (w0 : Int32) (T : Ts), Sm (kFT w0 T) (kF w0 (uz T))) : ∀ (n : Nat) (y0 : Int32) (T : Ts), Sm (tX4_product_7 x1 kFT n y0 T) (fX4_product_7 x1 kF n y0 (uz T)) := by
  intro n
  induction n with
  | zero => intros; exact sm9_n
  | succ n ih =>
    intro y0 T
    rw [tX4_product_7, fX4_product_7]
    repeat (first | with_reducible exact sm9_n | with_reducible exact sm9_s | with_reducible refine sm9_if ?_ ?_ | with_reducible refine sm9_I (fun _ => ?_) | with_reducible refine sm9_J (fun _ => ?_) | with_reducible refine sm9_R (fun _ => ?_) | with_reducible exact hkF _ _ | with_reducible refine sm9_b (hkF _ _) (fun _ _ => ?_) | with_reducible refine sm_fX4_product_40 ?_ ?_ _ | with_reducible refine sm9_b (sm_fX4_product_40 ?_ ?_ _) (fun _ _ => ?_) | with_reducible exact ih _ _ | with_reducible refine sm9_b (ih _ _) (fun _ _ => ?_) | intro _)
theorem sm_fX4_product {x1 : Int32} {kF : Int32 → Zs → Option (Unit × Zs)} {kFT : Int32 → Ts → Option (Unit × Ts)} (hkF : ∀ (w0 : Int32) (T : Ts), Sm (kFT w0 T) (kF w0 (uz T))) (T : Ts) : Sm (tX4_product x1 kFT T) (fX4_product x1 kF (uz T)) := by
  unfold tX4_product fX4_product
  repeat (first | with_reducible exact sm9_n | with_reducible exact sm9_s | with_reducible refine sm9_if ?_ ?_ | with_reducible refine sm9_I (fun _ => ?_) | with_reducible refine sm9_J (fun _ => ?_) | with_reducible refine sm9_R (fun _ => ?_) | with_reducible exact hkF _ _ | with_reducible refine sm9_b (hkF _ _) (fun _ _ => ?_) | with_reducible refine sm_fX4_product_7 ?_ _ _ _ | with_reducible refine sm9_b (sm_fX4_product_7 ?_ _ _ _) (fun _ _ => ?_) | intro _)
theorem sm_fX4_sum_31 {x1 : Int32} {y2 : Int32} {kF : Int32 → Zs → Option (Unit × Zs)} {kFT : Int32 → Ts → Option (Unit × Ts)} {k7 : Int32 → Zs → Option (Unit × Zs)} {k7T : Int32 → Ts → Option (Unit × Ts)} (hkF : ∀ (w0 : Int32) (T : Ts), Sm (kFT w0 T) (kF w0 (uz T))) (hk7 : ∀ (w0 : Int32) (T : Ts), Sm (k7T w0 T) (k7 w0 (uz T))) (T : Ts) : Sm (tX4_sum_31 x1 kFT k7T y2 T) (fX4_sum_31 x1 kF k7 y2 (uz T)) := by
  unfold tX4_sum_31 fX4_sum_31
  repeat (first | with_reducible exact sm9_n | with_reducible exact sm9_s | with_reducible refine sm9_if ?_ ?_ | with_reducible refine sm9_I (fun _ => ?_) | with_reducible refine sm9_J (fun _ => ?_) | with_reducible refine sm9_R (fun _ => ?_) | with_reducible exact hkF _ _ | with_reducible refine sm9_b (hkF _ _) (fun _ _ => ?_) | with_reducible exact hk7 _ _ | with_reducible refine sm9_b (hk7 _ _) (fun _ _ => ?_) | with_reducible refine sm_fX3_emit _ | with_reducible refine sm9_b (sm_fX3_emit _) (fun _ _ => ?_) | with_reducible refine sm_fX4_takeInExpression _ | with_reducible refine sm9_b (sm_fX4_takeInExpression _) (fun _ _ => ?_) | with_reducible refine sm_fX4_product ?_ _ | with_reducible refine sm9_b (sm_fX4_product ?_ _) (fun _ _ => ?_) | intro _)
theorem sm_fX4_sum_7 {x1 : Int32} {kF : Int32 → Zs → Option (Unit × Zs)} {kFT : Int32 → Ts → Option (Unit × Ts)} (hkF : ∀ (w0 : Int32) (T : Ts), Sm (kFT w0 T) (kF w0 (uz T))) : ∀ (n : Nat) (y0 : Int32) (T : Ts), Sm (tX4_sum_7 x1 kFT n y0 T) (fX4_sum_7 x1 kF n y0 (uz T)) := by
  intro n
  induction n with
  | zero => intros; exact sm9_n
  | succ n ih =>
    intro y0 T
    rw [tX4_sum_7, fX4_sum_7]
    repeat (first | with_reducible exact sm9_n | with_reducible exact sm9_s | with_reducible refine sm9_if ?_ ?_ | with_reducible refine sm9_I (fun _ => ?_) | with_reducible refine sm9_J (fun _ => ?_) | with_reducible refine sm9_R (fun _ => ?_) | with_reducible exact hkF _ _ | with_reducible refine sm9_b (hkF _ _) (fun _ _ => ?_) | with_reducible refine sm_fX4_sum_31 ?_ ?_ _ | with_reducible refine sm9_b (sm_fX4_sum_31 ?_ ?_ _) (fun _ _ => ?_) | with_reducible exact ih _ _ | with_reducible refine sm9_b (ih _ _) (fun _ _ => ?_) | intro _)
theorem sm_fX4_sum {x1 : Int32} {kF : Int32 → Zs → Option (Unit × Zs)} {kFT : Int32 → Ts → Option (Unit × Ts)} (hkF : ∀ (w0 : Int32) (T : Ts), Sm (kFT w0 T) (kF w0 (uz T))) (T : Ts) : Sm (tX4_sum x1 kFT T) (fX4_sum x1 kF (uz T)) := by
  unfold tX4_sum fX4_sum
  repeat (first | with_reducible exact sm9_n | with_reducible exact sm9_s | with_reducible refine sm9_if ?_ ?_ | with_reducible refine sm9_I (fun _ => ?_) | with_reducible refine sm9_J (fun _ => ?_) | with_reducible refine sm9_R (fun _ => ?_) | with_reducible exact hkF _ _ | with_reducible refine sm9_b (hkF _ _) (fun _ _ => ?_) | with_reducible refine sm_fX4_product ?_ _ | with_reducible refine sm9_b (sm_fX4_product ?_ _) (fun _ _ => ?_) | with_reducible refine sm_fX4_sum_7 ?_ _ _ _ | with_reducible refine sm9_b (sm_fX4_sum_7 ?_ _ _ _) (fun _ _ => ?_) | intro _)
theorem sm_fX4_relation_49 {x1 : Int32} {y2 : Int32} {kF : Int32 → Zs → Option (Unit × Zs)} {kFT : Int32 → Ts → Option (Unit × Ts)} (hkF : ∀ (w0 : Int32) (T : Ts), Sm (kFT w0 T) (kF w0 (uz T))) (T : Ts) : Sm (tX4_relation_49 x1 kFT y2 T) (fX4_relation_49 x1 kF y2 (uz T)) := by
  unfold tX4_relation_49 fX4_relation_49
  repeat (first | with_reducible exact sm9_n | with_reducible exact sm9_s | with_reducible refine sm9_if ?_ ?_ | with_reducible refine sm9_I (fun _ => ?_) | with_reducible refine sm9_J (fun _ => ?_) | with_reducible refine sm9_R (fun _ => ?_) | with_reducible exact hkF _ _ | with_reducible refine sm9_b (hkF _ _) (fun _ _ => ?_) | with_reducible refine sm_fX3_emit _ | with_reducible refine sm9_b (sm_fX3_emit _) (fun _ _ => ?_) | with_reducible refine sm_fX4_takeInExpression _ | with_reducible refine sm9_b (sm_fX4_takeInExpression _) (fun _ _ => ?_) | with_reducible refine sm_fX4_sum ?_ _ | with_reducible refine sm9_b (sm_fX4_sum ?_ _) (fun _ _ => ?_) | intro _)
theorem sm_fX4_relation {x1 : Int32} {kF : Int32 → Zs → Option (Unit × Zs)} {kFT : Int32 → Ts → Option (Unit × Ts)} (hkF : ∀ (w0 : Int32) (T : Ts), Sm (kFT w0 T) (kF w0 (uz T))) (T : Ts) : Sm (tX4_relation x1 kFT T) (fX4_relation x1 kF (uz T)) := by
  unfold tX4_relation fX4_relation
  repeat (first | with_reducible exact sm9_n | with_reducible exact sm9_s | with_reducible refine sm9_if ?_ ?_ | with_reducible refine sm9_I (fun _ => ?_) | with_reducible refine sm9_J (fun _ => ?_) | with_reducible refine sm9_R (fun _ => ?_) | with_reducible exact hkF _ _ | with_reducible refine sm9_b (hkF _ _) (fun _ _ => ?_) | with_reducible refine sm_fX4_sum ?_ _ | with_reducible refine sm9_b (sm_fX4_sum ?_ _) (fun _ _ => ?_) | with_reducible refine sm_fX4_relation_49 ?_ _ | with_reducible refine sm9_b (sm_fX4_relation_49 ?_ _) (fun _ _ => ?_) | intro _)
theorem sm_fX4_both_7 {x1 : Int32} {kF : Int32 → Zs → Option (Unit × Zs)} {kFT : Int32 → Ts → Option (Unit × Ts)} (hkF : ∀ (w0 : Int32) (T : Ts), Sm (kFT w0 T) (kF w0 (uz T))) : ∀ (n : Nat) (y0 : Int32) (T : Ts), Sm (tX4_both_7 x1 kFT n y0 T) (fX4_both_7 x1 kF n y0 (uz T)) := by
  intro n
  induction n with
  | zero => intros; exact sm9_n
  | succ n ih =>
    intro y0 T
    rw [tX4_both_7, fX4_both_7]
    repeat (first | with_reducible exact sm9_n | with_reducible exact sm9_s | with_reducible refine sm9_if ?_ ?_ | with_reducible refine sm9_I (fun _ => ?_) | with_reducible refine sm9_J (fun _ => ?_) | with_reducible refine sm9_R (fun _ => ?_) | with_reducible exact hkF _ _ | with_reducible refine sm9_b (hkF _ _) (fun _ _ => ?_) | with_reducible refine sm_fX3_emit _ | with_reducible refine sm9_b (sm_fX3_emit _) (fun _ _ => ?_) | with_reducible refine sm_fX4_takeInExpression _ | with_reducible refine sm9_b (sm_fX4_takeInExpression _) (fun _ _ => ?_) | with_reducible refine sm_fX4_relation ?_ _ | with_reducible refine sm9_b (sm_fX4_relation ?_ _) (fun _ _ => ?_) | with_reducible exact ih _ _ | with_reducible refine sm9_b (ih _ _) (fun _ _ => ?_) | intro _)
theorem sm_fX4_both {x1 : Int32} {kF : Int32 → Zs → Option (Unit × Zs)} {kFT : Int32 → Ts → Option (Unit × Ts)} (hkF : ∀ (w0 : Int32) (T : Ts), Sm (kFT w0 T) (kF w0 (uz T))) (T : Ts) : Sm (tX4_both x1 kFT T) (fX4_both x1 kF (uz T)) := by
  unfold tX4_both fX4_both
  repeat (first | with_reducible exact sm9_n | with_reducible exact sm9_s | with_reducible refine sm9_if ?_ ?_ | with_reducible refine sm9_I (fun _ => ?_) | with_reducible refine sm9_J (fun _ => ?_) | with_reducible refine sm9_R (fun _ => ?_) | with_reducible exact hkF _ _ | with_reducible refine sm9_b (hkF _ _) (fun _ _ => ?_) | with_reducible refine sm_fX4_relation ?_ _ | with_reducible refine sm9_b (sm_fX4_relation ?_ _) (fun _ _ => ?_) | with_reducible refine sm_fX4_both_7 ?_ _ _ _ | with_reducible refine sm9_b (sm_fX4_both_7 ?_ _ _ _) (fun _ _ => ?_) | intro _)
theorem sm_fX4_expression_7 {x1 : Int32} {kF : Int32 → Zs → Option (Unit × Zs)} {kFT : Int32 → Ts → Option (Unit × Ts)} (hkF : ∀ (w0 : Int32) (T : Ts), Sm (kFT w0 T) (kF w0 (uz T))) : ∀ (n : Nat) (y0 : Int32) (T : Ts), Sm (tX4_expression_7 x1 kFT n y0 T) (fX4_expression_7 x1 kF n y0 (uz T)) := by
  intro n
  induction n with
  | zero => intros; exact sm9_n
  | succ n ih =>
    intro y0 T
    rw [tX4_expression_7, fX4_expression_7]
    repeat (first | with_reducible exact sm9_n | with_reducible exact sm9_s | with_reducible refine sm9_if ?_ ?_ | with_reducible refine sm9_I (fun _ => ?_) | with_reducible refine sm9_J (fun _ => ?_) | with_reducible refine sm9_R (fun _ => ?_) | with_reducible exact hkF _ _ | with_reducible refine sm9_b (hkF _ _) (fun _ _ => ?_) | with_reducible refine sm_fX3_emit _ | with_reducible refine sm9_b (sm_fX3_emit _) (fun _ _ => ?_) | with_reducible refine sm_fX4_takeInExpression _ | with_reducible refine sm9_b (sm_fX4_takeInExpression _) (fun _ _ => ?_) | with_reducible refine sm_fX4_both ?_ _ | with_reducible refine sm9_b (sm_fX4_both ?_ _) (fun _ _ => ?_) | with_reducible exact ih _ _ | with_reducible refine sm9_b (ih _ _) (fun _ _ => ?_) | intro _)
theorem sm_fX4_expression {x1 : Int32} {kF : Int32 → Zs → Option (Unit × Zs)} {kFT : Int32 → Ts → Option (Unit × Ts)} (hkF : ∀ (w0 : Int32) (T : Ts), Sm (kFT w0 T) (kF w0 (uz T))) (T : Ts) : Sm (tX4_expression x1 kFT T) (fX4_expression x1 kF (uz T)) := by
  unfold tX4_expression fX4_expression
  repeat (first | with_reducible exact sm9_n | with_reducible exact sm9_s | with_reducible refine sm9_if ?_ ?_ | with_reducible refine sm9_I (fun _ => ?_) | with_reducible refine sm9_J (fun _ => ?_) | with_reducible refine sm9_R (fun _ => ?_) | with_reducible exact hkF _ _ | with_reducible refine sm9_b (hkF _ _) (fun _ _ => ?_) | with_reducible refine sm_fX4_both ?_ _ | with_reducible refine sm9_b (sm_fX4_both ?_ _) (fun _ _ => ?_) | with_reducible refine sm_fX4_expression_7 ?_ _ _ _ | with_reducible refine sm9_b (sm_fX4_expression_7 ?_ _ _ _) (fun _ _ => ?_) | intro _)
theorem sm_pfac : ∀ (n : Nat) (d : Int32) (T : Ts), Sm (tpfac n d T) (pfac n d (uz T)) := by
  intro n
  induction n with
  | zero => intros; exact sm9_n
  | succ n ih =>
    intro d T
    rw [tpfac.eq_2, pfac.eq_2]
    exact sm_fX4_factor (kE := fun d z => fX4_expression d (pfac n) z) (kET := fun d z => tX4_expression d (tpfac n) z) (kF := pfac n) (kFT := tpfac n) (fun d T => sm_fX4_expression (kF := pfac n) (kFT := tpfac n) (fun d T => ih d T) T) (fun d T => ih d T) T
theorem sm_fX4_expression' {d : Int32} (T : Ts) : Sm (tX4_expression' d T) (fX4_expression' d (uz T)) := sm_fX4_expression (fun d T => sm_pfac 10 d T) T
theorem sm_fX4_wholeExpression  (T : Ts) : Sm (tX4_wholeExpression  T) (fX4_wholeExpression  (uz T)) := by
  unfold tX4_wholeExpression fX4_wholeExpression
  repeat (first | with_reducible exact sm9_n | with_reducible exact sm9_s | with_reducible refine sm9_if ?_ ?_ | with_reducible refine sm9_I (fun _ => ?_) | with_reducible refine sm9_J (fun _ => ?_) | with_reducible refine sm9_R (fun _ => ?_) | with_reducible refine sm_fX3_startExpression _ | with_reducible refine sm9_b (sm_fX3_startExpression _) (fun _ _ => ?_) | with_reducible refine sm_fX3_endExpression _ | with_reducible refine sm9_b (sm_fX3_endExpression _) (fun _ _ => ?_) | with_reducible exact sm_fX4_expression' _ | with_reducible refine sm9_b (sm_fX4_expression' _) (fun _ _ => ?_) | intro _)
theorem sm_fX4_newColumns_29 {y1 : Int32} {k9 : Int32 → Zs → Option (Unit × Zs)} {k9T : Int32 → Ts → Option (Unit × Ts)} (hk9 : ∀ (w0 : Int32) (T : Ts), Sm (k9T w0 T) (k9 w0 (uz T))) (T : Ts) : Sm (tX4_newColumns_29 k9T y1 T) (fX4_newColumns_29 k9 y1 (uz T)) := by
  unfold tX4_newColumns_29 fX4_newColumns_29
  repeat (first | with_reducible exact sm9_n | with_reducible exact sm9_s | with_reducible refine sm9_if ?_ ?_ | with_reducible refine sm9_I (fun _ => ?_) | with_reducible refine sm9_J (fun _ => ?_) | with_reducible refine sm9_R (fun _ => ?_) | with_reducible exact hk9 _ _ | with_reducible refine sm9_b (hk9 _ _) (fun _ _ => ?_) | with_reducible refine sm_fX4_take _ | with_reducible refine sm9_b (sm_fX4_take _) (fun _ _ => ?_) | with_reducible refine sm_fX4_takeComma _ | with_reducible refine sm9_b (sm_fX4_takeComma _) (fun _ _ => ?_) | with_reducible refine sm_fX4_takeName _ | with_reducible refine sm9_b (sm_fX4_takeName _) (fun _ _ => ?_) | with_reducible refine sm_fX4_wholeExpression _ | with_reducible refine sm9_b (sm_fX4_wholeExpression _) (fun _ _ => ?_) | intro _)
theorem sm_fX4_newColumns_9  : ∀ (n : Nat) (y0 : Int32) (T : Ts), Sm (tX4_newColumns_9  n y0 T) (fX4_newColumns_9  n y0 (uz T)) := by
  intro n
  induction n with
  | zero => intros; exact sm9_n
  | succ n ih =>
    intro y0 T
    rw [tX4_newColumns_9, fX4_newColumns_9]
    repeat (first | with_reducible exact sm9_n | with_reducible exact sm9_s | with_reducible refine sm9_if ?_ ?_ | with_reducible refine sm9_I (fun _ => ?_) | with_reducible refine sm9_J (fun _ => ?_) | with_reducible refine sm9_R (fun _ => ?_) | with_reducible refine sm_fX4_newColumns_29 ?_ _ | with_reducible refine sm9_b (sm_fX4_newColumns_29 ?_ _) (fun _ _ => ?_) | with_reducible exact ih _ _ | with_reducible refine sm9_b (ih _ _) (fun _ _ => ?_) | intro _)
theorem sm_fX4_newColumns  (T : Ts) : Sm (tX4_newColumns  T) (fX4_newColumns  (uz T)) := by
  unfold tX4_newColumns fX4_newColumns
  repeat (first | with_reducible exact sm9_n | with_reducible exact sm9_s | with_reducible refine sm9_if ?_ ?_ | with_reducible refine sm9_I (fun _ => ?_) | with_reducible refine sm9_J (fun _ => ?_) | with_reducible refine sm9_R (fun _ => ?_) | with_reducible refine sm_fX4_take _ | with_reducible refine sm9_b (sm_fX4_take _) (fun _ _ => ?_) | with_reducible refine sm_fX4_newColumns_9 _ _ _ | with_reducible refine sm9_b (sm_fX4_newColumns_9 _ _ _) (fun _ _ => ?_) | intro _)
theorem sm_fX4_window_64 {y1 : Int32} {k44 : Int32 → Zs → Option (Unit × Zs)} {k44T : Int32 → Ts → Option (Unit × Ts)} (hk44 : ∀ (w0 : Int32) (T : Ts), Sm (k44T w0 T) (k44 w0 (uz T))) (T : Ts) : Sm (tX4_window_64 k44T y1 T) (fX4_window_64 k44 y1 (uz T)) := by
  unfold tX4_window_64 fX4_window_64
  repeat (first | with_reducible exact sm9_n | with_reducible exact sm9_s | with_reducible refine sm9_if ?_ ?_ | with_reducible refine sm9_I (fun _ => ?_) | with_reducible refine sm9_J (fun _ => ?_) | with_reducible refine sm9_R (fun _ => ?_) | with_reducible exact hk44 _ _ | with_reducible refine sm9_b (hk44 _ _) (fun _ _ => ?_) | with_reducible refine sm_fX4_take _ | with_reducible refine sm9_b (sm_fX4_take _) (fun _ _ => ?_) | with_reducible refine sm_fX4_takeComma _ | with_reducible refine sm9_b (sm_fX4_takeComma _) (fun _ _ => ?_) | with_reducible refine sm_fX4_takeName _ | with_reducible refine sm9_b (sm_fX4_takeName _) (fun _ _ => ?_) | with_reducible refine sm_fX4_takeTotal _ | with_reducible refine sm9_b (sm_fX4_takeTotal _) (fun _ _ => ?_) | with_reducible refine sm_fX4_wholeExpression _ | with_reducible refine sm9_b (sm_fX4_wholeExpression _) (fun _ _ => ?_) | intro _)
theorem sm_fX4_window_44  : ∀ (n : Nat) (y0 : Int32) (T : Ts), Sm (tX4_window_44  n y0 T) (fX4_window_44  n y0 (uz T)) := by
  intro n
  induction n with
  | zero => intros; exact sm9_n
  | succ n ih =>
    intro y0 T
    rw [tX4_window_44, fX4_window_44]
    repeat (first | with_reducible exact sm9_n | with_reducible exact sm9_s | with_reducible refine sm9_if ?_ ?_ | with_reducible refine sm9_I (fun _ => ?_) | with_reducible refine sm9_J (fun _ => ?_) | with_reducible refine sm9_R (fun _ => ?_) | with_reducible refine sm_fX4_take _ | with_reducible refine sm9_b (sm_fX4_take _) (fun _ _ => ?_) | with_reducible refine sm_fX4_window_64 ?_ _ | with_reducible refine sm9_b (sm_fX4_window_64 ?_ _) (fun _ _ => ?_) | with_reducible exact ih _ _ | with_reducible refine sm9_b (ih _ _) (fun _ _ => ?_) | intro _)
theorem sm_fX4_window  (T : Ts) : Sm (tX4_window  T) (fX4_window  (uz T)) := by
  unfold tX4_window fX4_window
  repeat (first | with_reducible exact sm9_n | with_reducible exact sm9_s | with_reducible refine sm9_if ?_ ?_ | with_reducible refine sm9_I (fun _ => ?_) | with_reducible refine sm9_J (fun _ => ?_) | with_reducible refine sm9_R (fun _ => ?_) | with_reducible refine sm_fX4_take _ | with_reducible refine sm9_b (sm_fX4_take _) (fun _ _ => ?_) | with_reducible refine sm_fX4_takeName _ | with_reducible refine sm9_b (sm_fX4_takeName _) (fun _ _ => ?_) | with_reducible refine sm_fX4_takeRange _ | with_reducible refine sm9_b (sm_fX4_takeRange _) (fun _ _ => ?_) | with_reducible refine sm_fX4_window_44 _ _ _ | with_reducible refine sm9_b (sm_fX4_window_44 _ _ _) (fun _ _ => ?_) | intro _)
theorem sm_fX4_source  (T : Ts) : Sm (tX4_source  T) (fX4_source  (uz T)) := by
  unfold tX4_source fX4_source
  repeat (first | with_reducible exact sm9_n | with_reducible exact sm9_s | with_reducible refine sm9_if ?_ ?_ | with_reducible refine sm9_I (fun _ => ?_) | with_reducible refine sm9_J (fun _ => ?_) | with_reducible refine sm9_R (fun _ => ?_) | with_reducible refine sm_fX3_startStream _ | with_reducible refine sm9_b (sm_fX3_startStream _) (fun _ _ => ?_) | with_reducible refine sm_fX3_startWork _ | with_reducible refine sm9_b (sm_fX3_startWork _) (fun _ _ => ?_) | with_reducible refine sm_fX3_endStream _ | with_reducible refine sm9_b (sm_fX3_endStream _) (fun _ _ => ?_) | with_reducible refine sm_fX4_take _ | with_reducible refine sm9_b (sm_fX4_take _) (fun _ _ => ?_) | with_reducible refine sm_fX4_takeName _ | with_reducible refine sm9_b (sm_fX4_takeName _) (fun _ _ => ?_) | with_reducible refine sm_fX4_takeRange _ | with_reducible refine sm9_b (sm_fX4_takeRange _) (fun _ _ => ?_) | with_reducible refine sm_fX4_takeNames _ | with_reducible refine sm9_b (sm_fX4_takeNames _) (fun _ _ => ?_) | intro _)
theorem sm_fX4_check  (T : Ts) : Sm (tX4_check  T) (fX4_check  (uz T)) := by
  unfold tX4_check fX4_check
  repeat (first | with_reducible exact sm9_n | with_reducible exact sm9_s | with_reducible refine sm9_if ?_ ?_ | with_reducible refine sm9_I (fun _ => ?_) | with_reducible refine sm9_J (fun _ => ?_) | with_reducible refine sm9_R (fun _ => ?_) | with_reducible refine sm_fX3_startCheck _ | with_reducible refine sm9_b (sm_fX3_startCheck _) (fun _ _ => ?_) | with_reducible refine sm_fX3_endCheck _ | with_reducible refine sm9_b (sm_fX3_endCheck _) (fun _ _ => ?_) | with_reducible refine sm_fX4_fail _ | with_reducible refine sm9_b (sm_fX4_fail _) (fun _ _ => ?_) | with_reducible refine sm_fX4_take _ | with_reducible refine sm9_b (sm_fX4_take _) (fun _ _ => ?_) | with_reducible refine sm_fX4_takeName _ | with_reducible refine sm9_b (sm_fX4_takeName _) (fun _ _ => ?_) | with_reducible refine sm_fX4_wholeExpression _ | with_reducible refine sm9_b (sm_fX4_wholeExpression _) (fun _ _ => ?_) | intro _)
theorem sm_fX4_step_45 {y1 : Int32} (T : Ts) : Sm (tX4_step_45 y1 T) (fX4_step_45 y1 (uz T)) := by
  unfold tX4_step_45 fX4_step_45
  repeat (first | with_reducible exact sm9_n | with_reducible exact sm9_s | with_reducible refine sm9_if ?_ ?_ | with_reducible refine sm9_I (fun _ => ?_) | with_reducible refine sm9_J (fun _ => ?_) | with_reducible refine sm9_R (fun _ => ?_) | with_reducible refine sm_fX3_startWork _ | with_reducible refine sm9_b (sm_fX3_startWork _) (fun _ _ => ?_) | with_reducible refine sm_fX3_endStream _ | with_reducible refine sm9_b (sm_fX3_endStream _) (fun _ _ => ?_) | with_reducible refine sm_fX4_take _ | with_reducible refine sm9_b (sm_fX4_take _) (fun _ _ => ?_) | with_reducible refine sm_fX4_takeName _ | with_reducible refine sm9_b (sm_fX4_takeName _) (fun _ _ => ?_) | with_reducible refine sm_fX4_takeRange _ | with_reducible refine sm9_b (sm_fX4_takeRange _) (fun _ _ => ?_) | with_reducible refine sm_fX4_takeNames _ | with_reducible refine sm9_b (sm_fX4_takeNames _) (fun _ _ => ?_) | with_reducible refine sm_fX4_secondInput _ | with_reducible refine sm9_b (sm_fX4_secondInput _) (fun _ _ => ?_) | with_reducible refine sm_fX4_kindOfWork _ | with_reducible refine sm9_b (sm_fX4_kindOfWork _) (fun _ _ => ?_) | with_reducible refine sm_fX4_wholeExpression _ | with_reducible refine sm9_b (sm_fX4_wholeExpression _) (fun _ _ => ?_) | with_reducible refine sm_fX4_newColumns _ | with_reducible refine sm9_b (sm_fX4_newColumns _) (fun _ _ => ?_) | with_reducible refine sm_fX4_window _ | with_reducible refine sm9_b (sm_fX4_window _) (fun _ _ => ?_) | intro _)
theorem sm_fX4_step  (T : Ts) : Sm (tX4_step  T) (fX4_step  (uz T)) := by
  unfold tX4_step fX4_step
  repeat (first | with_reducible exact sm9_n | with_reducible exact sm9_s | with_reducible refine sm9_if ?_ ?_ | with_reducible refine sm9_I (fun _ => ?_) | with_reducible refine sm9_J (fun _ => ?_) | with_reducible refine sm9_R (fun _ => ?_) | with_reducible refine sm_fX3_startStream _ | with_reducible refine sm9_b (sm_fX3_startStream _) (fun _ _ => ?_) | with_reducible refine sm_fX4_fail _ | with_reducible refine sm9_b (sm_fX4_fail _) (fun _ _ => ?_) | with_reducible refine sm_fX4_take _ | with_reducible refine sm9_b (sm_fX4_take _) (fun _ _ => ?_) | with_reducible refine sm_fX4_takeName _ | with_reducible refine sm9_b (sm_fX4_takeName _) (fun _ _ => ?_) | with_reducible refine sm_fX4_kindOfWork _ | with_reducible refine sm9_b (sm_fX4_kindOfWork _) (fun _ _ => ?_) | with_reducible refine sm_fX4_step_45 _ | with_reducible refine sm9_b (sm_fX4_step_45 _) (fun _ _ => ?_) | intro _)
theorem sm_fX4_parse_41 {y1 : Int32} {k16 : Int32 → Zs → Option (Int32 × Zs)} {k16T : Int32 → Ts → Option (Int32 × Ts)} (hk16 : ∀ (w0 : Int32) (T : Ts), Sm (k16T w0 T) (k16 w0 (uz T))) (T : Ts) : Sm (tX4_parse_41 k16T y1 T) (fX4_parse_41 k16 y1 (uz T)) := by
  unfold tX4_parse_41 fX4_parse_41
  repeat (first | with_reducible exact sm9_n | with_reducible exact sm9_s | with_reducible refine sm9_if ?_ ?_ | with_reducible refine sm9_I (fun _ => ?_) | with_reducible refine sm9_J (fun _ => ?_) | with_reducible refine sm9_R (fun _ => ?_) | with_reducible exact hk16 _ _ | with_reducible refine sm9_b (hk16 _ _) (fun _ _ => ?_) | with_reducible refine sm_fX4_fail _ | with_reducible refine sm9_b (sm_fX4_fail _) (fun _ _ => ?_) | with_reducible refine sm_fX4_source _ | with_reducible refine sm9_b (sm_fX4_source _) (fun _ _ => ?_) | with_reducible refine sm_fX4_check _ | with_reducible refine sm9_b (sm_fX4_check _) (fun _ _ => ?_) | with_reducible refine sm_fX4_step _ | with_reducible refine sm9_b (sm_fX4_step _) (fun _ _ => ?_) | intro _)
theorem sm_fX4_parse_16  : ∀ (n : Nat) (y0 : Int32) (T : Ts), Sm (tX4_parse_16  n y0 T) (fX4_parse_16  n y0 (uz T)) := by
  intro n
  induction n with
  | zero => intros; exact sm9_n
  | succ n ih =>
    intro y0 T
    rw [tX4_parse_16, fX4_parse_16]
    repeat (first | with_reducible exact sm9_n | with_reducible exact sm9_s | with_reducible refine sm9_if ?_ ?_ | with_reducible refine sm9_I (fun _ => ?_) | with_reducible refine sm9_J (fun _ => ?_) | with_reducible refine sm9_R (fun _ => ?_) | with_reducible refine sm_fX4_parse_41 ?_ _ | with_reducible refine sm9_b (sm_fX4_parse_41 ?_ _) (fun _ _ => ?_) | with_reducible exact ih _ _ | with_reducible refine sm9_b (ih _ _) (fun _ _ => ?_) | intro _)
theorem sm_fX4_parse  (T : Ts) : Sm (tX4_parse  T) (fX4_parse  (uz T)) := by
  unfold tX4_parse fX4_parse
  repeat (first | with_reducible exact sm9_n | with_reducible exact sm9_s | with_reducible refine sm9_if ?_ ?_ | with_reducible refine sm9_I (fun _ => ?_) | with_reducible refine sm9_J (fun _ => ?_) | with_reducible refine sm9_R (fun _ => ?_) | with_reducible refine sm_fX4_advance _ | with_reducible refine sm9_b (sm_fX4_advance _) (fun _ _ => ?_) | with_reducible refine sm_fX4_parse_16 _ _ _ | with_reducible refine sm9_b (sm_fX4_parse_16 _ _ _) (fun _ _ => ?_) | intro _)
theorem sm_fX11_appendBytes_3 {x1 : Int32} : ∀ (n : Nat) (y0 : Int32) (T : Ts), Sm (tX11_appendBytes_3 x1 n y0 T) (fX11_appendBytes_3 x1 n y0 (uz T)) := by
  intro n
  induction n with
  | zero => intros; exact sm9_n
  | succ n ih =>
    intro y0 T
    rw [tX11_appendBytes_3, fX11_appendBytes_3]
    repeat (first | with_reducible exact sm9_n | with_reducible exact sm9_s | with_reducible refine sm9_if ?_ ?_ | with_reducible refine sm9_I (fun _ => ?_) | with_reducible refine sm9_J (fun _ => ?_) | with_reducible refine sm9_R (fun _ => ?_) | with_reducible exact ih _ _ | with_reducible refine sm9_b (ih _ _) (fun _ _ => ?_) | intro _)
theorem sm_fX11_appendBytes {x1 : Int32} (T : Ts) : Sm (tX11_appendBytes x1 T) (fX11_appendBytes x1 (uz T)) := by
  unfold tX11_appendBytes fX11_appendBytes
  repeat (first | with_reducible exact sm9_n | with_reducible exact sm9_s | with_reducible refine sm9_if ?_ ?_ | with_reducible refine sm9_I (fun _ => ?_) | with_reducible refine sm9_J (fun _ => ?_) | with_reducible refine sm9_R (fun _ => ?_) | with_reducible refine sm_fX11_appendBytes_3 _ _ _ | with_reducible refine sm9_b (sm_fX11_appendBytes_3 _ _ _) (fun _ _ => ?_) | intro _)
theorem sm_fX11_feed {x1 : Int32} {x2 : Int32} {x3 : Int32} {x4 : Int32} {x5 : Int32} (T : Ts) : Sm (tX11_feed x1 x2 x3 x4 x5 T) (fX11_feed x1 x2 x3 x4 x5 (uz T)) := by
  unfold tX11_feed fX11_feed
  repeat (first | with_reducible exact sm9_n | with_reducible exact sm9_s | with_reducible refine sm9_if ?_ ?_ | with_reducible refine sm9_I (fun _ => ?_) | with_reducible refine sm9_J (fun _ => ?_) | with_reducible refine sm9_R (fun _ => ?_) | with_reducible refine sm_fX11_appendBytes _ | with_reducible refine sm9_b (sm_fX11_appendBytes _) (fun _ _ => ?_) | intro _)
theorem sm_fX11_trim {x1 : Int32} (T : Ts) : Sm (tX11_trim x1 T) (fX11_trim x1 (uz T)) := by
  unfold tX11_trim fX11_trim
  repeat (first | with_reducible exact sm9_n | with_reducible exact sm9_s | with_reducible refine sm9_if ?_ ?_ | with_reducible refine sm9_I (fun _ => ?_) | with_reducible refine sm9_J (fun _ => ?_) | with_reducible refine sm9_R (fun _ => ?_) | intro _)
theorem sm_fX11_takeSpareProgram  (T : Ts) : Sm (tX11_takeSpareProgram  T) (fX11_takeSpareProgram  (uz T)) := by
  unfold tX11_takeSpareProgram fX11_takeSpareProgram
  repeat (first | with_reducible exact sm9_n | with_reducible exact sm9_s | with_reducible refine sm9_if ?_ ?_ | with_reducible refine sm9_I (fun _ => ?_) | with_reducible refine sm9_J (fun _ => ?_) | with_reducible refine sm9_R (fun _ => ?_) | with_reducible refine sm_fX1_start _ | with_reducible refine sm9_b (sm_fX1_start _) (fun _ _ => ?_) | intro _)
theorem sm_fX11_compile  (T : Ts) : Sm (tX11_compile  T) (fX11_compile  (uz T)) := by
  unfold tX11_compile fX11_compile
  repeat (first | with_reducible exact sm9_n | with_reducible exact sm9_s | with_reducible refine sm9_if ?_ ?_ | with_reducible refine sm9_I (fun _ => ?_) | with_reducible refine sm9_J (fun _ => ?_) | with_reducible refine sm9_R (fun _ => ?_) | with_reducible refine sm_fX9_scan _ | with_reducible refine sm9_b (sm_fX9_scan _) (fun _ _ => ?_) | with_reducible refine sm_fX3_begin _ | with_reducible refine sm9_b (sm_fX3_begin _) (fun _ _ => ?_) | with_reducible refine sm_fX4_parse _ | with_reducible refine sm9_b (sm_fX4_parse _) (fun _ _ => ?_) | with_reducible refine sm_fX11_takeSpareProgram _ | with_reducible refine sm9_b (sm_fX11_takeSpareProgram _) (fun _ _ => ?_) | intro _)
end SMS
