/-! THE STORE: kinds, lengths, int fields, long fields, reference fields, rows of ints, longs, references. Kinds 0 to 14: the classes of vwCl; 20 int rows, 21 long, 22 byte, 23 boolean, 24 rows of Check, 25 of Entry, 26 of Row, 27 of Stream; 99 none. Field k of class c has the number c * 64 + k. -/
abbrev Hp : Type := Option ((Nat → Nat) × (Nat → Nat) × (Nat → Nat → Int32) × (Nat → Nat → Int64) × (Nat → Nat → Option Nat) × (Nat → Nat → Int32) × (Nat → Nat → Int64) × (Nat → Nat → Option Nat))
def m_K (h : Hp) : Nat → Nat := match h with
  | some q => q.1
  | none => fun _ => 99
def m_N (h : Hp) : Nat → Nat := match h with
  | some q => q.2.1
  | none => fun _ => 0
def m_I (h : Hp) : Nat → Nat → Int32 := match h with
  | some q => q.2.2.1
  | none => fun _ _ => 0
def m_J (h : Hp) : Nat → Nat → Int64 := match h with
  | some q => q.2.2.2.1
  | none => fun _ _ => 0
def m_R (h : Hp) : Nat → Nat → Option Nat := match h with
  | some q => q.2.2.2.2.1
  | none => fun _ _ => none
def m_X (h : Hp) : Nat → Nat → Int32 := match h with
  | some q => q.2.2.2.2.2.1
  | none => fun _ _ => 0
def m_Y (h : Hp) : Nat → Nat → Int64 := match h with
  | some q => q.2.2.2.2.2.2.1
  | none => fun _ _ => 0
def m_Z (h : Hp) : Nat → Nat → Option Nat := match h with
  | some q => q.2.2.2.2.2.2.2
  | none => fun _ _ => none
def m_u {α : Type} (f : Nat → Nat → α) (c a : Nat) (v : α) : Nat → Nat → α := fun d b => if d = c ∧ b = a then v else f d b
def p_I (h : Hp) (c a : Nat) (v : Int32) : Hp := some (m_K h, m_N h, m_u (m_I h) c a v, m_J h, m_R h, m_X h, m_Y h, m_Z h)
def p_J (h : Hp) (c a : Nat) (v : Int64) : Hp := some (m_K h, m_N h, m_I h, m_u (m_J h) c a v, m_R h, m_X h, m_Y h, m_Z h)
def p_R (h : Hp) (c a : Nat) (v : Option Nat) : Hp := some (m_K h, m_N h, m_I h, m_J h, m_u (m_R h) c a v, m_X h, m_Y h, m_Z h)
def p_X (h : Hp) (c a : Nat) (v : Int32) : Hp := some (m_K h, m_N h, m_I h, m_J h, m_R h, m_u (m_X h) c a v, m_Y h, m_Z h)
def p_Y (h : Hp) (c a : Nat) (v : Int64) : Hp := some (m_K h, m_N h, m_I h, m_J h, m_R h, m_X h, m_u (m_Y h) c a v, m_Z h)
def p_Z (h : Hp) (c a : Nat) (v : Option Nat) : Hp := some (m_K h, m_N h, m_I h, m_J h, m_R h, m_X h, m_Y h, m_u (m_Z h) c a v)
/-- a new object, a new row -/
def n_O (h : Hp) (q c : Nat) : Hp := some (va_up (m_K h) q c, m_N h, (fun d b => if b = q then 0 else m_I h d b), (fun d b => if b = q then 0 else m_J h d b), (fun d b => if b = q then none else m_R h d b), m_X h, m_Y h, m_Z h)
def n_A (h : Hp) (q c n : Nat) : Hp := some (va_up (m_K h) q c, va_up (m_N h) q n, m_I h, m_J h, m_R h, (fun d j => if d = q then 0 else m_X h d j), (fun d j => if d = q then 0 else m_Y h d j), (fun d j => if d = q then none else m_Z h d j))
theorem g_KI {h : Hp} {c a : Nat} {v : Int32} : m_K (p_I h c a v) = m_K h := rfl
theorem g_NI {h : Hp} {c a : Nat} {v : Int32} : m_N (p_I h c a v) = m_N h := rfl
theorem g_II {h : Hp} {c a : Nat} {v : Int32} (d b : Nat) : m_I (p_I h c a v) d b = if d = c ∧ b = a then v else m_I h d b := rfl
theorem g_JI {h : Hp} {c a : Nat} {v : Int32} : m_J (p_I h c a v) = m_J h := rfl
theorem g_RI {h : Hp} {c a : Nat} {v : Int32} : m_R (p_I h c a v) = m_R h := rfl
theorem g_XI {h : Hp} {c a : Nat} {v : Int32} : m_X (p_I h c a v) = m_X h := rfl
theorem g_YI {h : Hp} {c a : Nat} {v : Int32} : m_Y (p_I h c a v) = m_Y h := rfl
theorem g_ZI {h : Hp} {c a : Nat} {v : Int32} : m_Z (p_I h c a v) = m_Z h := rfl
theorem g_KJ {h : Hp} {c a : Nat} {v : Int64} : m_K (p_J h c a v) = m_K h := rfl
theorem g_NJ {h : Hp} {c a : Nat} {v : Int64} : m_N (p_J h c a v) = m_N h := rfl
theorem g_IJ {h : Hp} {c a : Nat} {v : Int64} : m_I (p_J h c a v) = m_I h := rfl
theorem g_JJ {h : Hp} {c a : Nat} {v : Int64} (d b : Nat) : m_J (p_J h c a v) d b = if d = c ∧ b = a then v else m_J h d b := rfl
theorem g_RJ {h : Hp} {c a : Nat} {v : Int64} : m_R (p_J h c a v) = m_R h := rfl
theorem g_XJ {h : Hp} {c a : Nat} {v : Int64} : m_X (p_J h c a v) = m_X h := rfl
theorem g_YJ {h : Hp} {c a : Nat} {v : Int64} : m_Y (p_J h c a v) = m_Y h := rfl
theorem g_ZJ {h : Hp} {c a : Nat} {v : Int64} : m_Z (p_J h c a v) = m_Z h := rfl
theorem g_KR {h : Hp} {c a : Nat} {v : Option Nat} : m_K (p_R h c a v) = m_K h := rfl
theorem g_NR {h : Hp} {c a : Nat} {v : Option Nat} : m_N (p_R h c a v) = m_N h := rfl
theorem g_IR {h : Hp} {c a : Nat} {v : Option Nat} : m_I (p_R h c a v) = m_I h := rfl
theorem g_JR {h : Hp} {c a : Nat} {v : Option Nat} : m_J (p_R h c a v) = m_J h := rfl
theorem g_RR {h : Hp} {c a : Nat} {v : Option Nat} (d b : Nat) : m_R (p_R h c a v) d b = if d = c ∧ b = a then v else m_R h d b := rfl
theorem g_XR {h : Hp} {c a : Nat} {v : Option Nat} : m_X (p_R h c a v) = m_X h := rfl
theorem g_YR {h : Hp} {c a : Nat} {v : Option Nat} : m_Y (p_R h c a v) = m_Y h := rfl
theorem g_ZR {h : Hp} {c a : Nat} {v : Option Nat} : m_Z (p_R h c a v) = m_Z h := rfl
theorem g_KX {h : Hp} {c a : Nat} {v : Int32} : m_K (p_X h c a v) = m_K h := rfl
theorem g_NX {h : Hp} {c a : Nat} {v : Int32} : m_N (p_X h c a v) = m_N h := rfl
theorem g_IX {h : Hp} {c a : Nat} {v : Int32} : m_I (p_X h c a v) = m_I h := rfl
theorem g_JX {h : Hp} {c a : Nat} {v : Int32} : m_J (p_X h c a v) = m_J h := rfl
theorem g_RX {h : Hp} {c a : Nat} {v : Int32} : m_R (p_X h c a v) = m_R h := rfl
theorem g_XX {h : Hp} {c a : Nat} {v : Int32} (d b : Nat) : m_X (p_X h c a v) d b = if d = c ∧ b = a then v else m_X h d b := rfl
theorem g_YX {h : Hp} {c a : Nat} {v : Int32} : m_Y (p_X h c a v) = m_Y h := rfl
theorem g_ZX {h : Hp} {c a : Nat} {v : Int32} : m_Z (p_X h c a v) = m_Z h := rfl
theorem g_KY {h : Hp} {c a : Nat} {v : Int64} : m_K (p_Y h c a v) = m_K h := rfl
theorem g_NY {h : Hp} {c a : Nat} {v : Int64} : m_N (p_Y h c a v) = m_N h := rfl
theorem g_IY {h : Hp} {c a : Nat} {v : Int64} : m_I (p_Y h c a v) = m_I h := rfl
theorem g_JY {h : Hp} {c a : Nat} {v : Int64} : m_J (p_Y h c a v) = m_J h := rfl
theorem g_RY {h : Hp} {c a : Nat} {v : Int64} : m_R (p_Y h c a v) = m_R h := rfl
theorem g_XY {h : Hp} {c a : Nat} {v : Int64} : m_X (p_Y h c a v) = m_X h := rfl
theorem g_YY {h : Hp} {c a : Nat} {v : Int64} (d b : Nat) : m_Y (p_Y h c a v) d b = if d = c ∧ b = a then v else m_Y h d b := rfl
theorem g_ZY {h : Hp} {c a : Nat} {v : Int64} : m_Z (p_Y h c a v) = m_Z h := rfl
theorem g_KZ {h : Hp} {c a : Nat} {v : Option Nat} : m_K (p_Z h c a v) = m_K h := rfl
theorem g_NZ {h : Hp} {c a : Nat} {v : Option Nat} : m_N (p_Z h c a v) = m_N h := rfl
theorem g_IZ {h : Hp} {c a : Nat} {v : Option Nat} : m_I (p_Z h c a v) = m_I h := rfl
theorem g_JZ {h : Hp} {c a : Nat} {v : Option Nat} : m_J (p_Z h c a v) = m_J h := rfl
theorem g_RZ {h : Hp} {c a : Nat} {v : Option Nat} : m_R (p_Z h c a v) = m_R h := rfl
theorem g_XZ {h : Hp} {c a : Nat} {v : Option Nat} : m_X (p_Z h c a v) = m_X h := rfl
theorem g_YZ {h : Hp} {c a : Nat} {v : Option Nat} : m_Y (p_Z h c a v) = m_Y h := rfl
theorem g_ZZ {h : Hp} {c a : Nat} {v : Option Nat} (d b : Nat) : m_Z (p_Z h c a v) d b = if d = c ∧ b = a then v else m_Z h d b := rfl
theorem g_IIs {h : Hp} {c a : Nat} {v : Int32} : m_I (p_I h c a v) c a = v := if_pos ⟨rfl, rfl⟩
theorem g_IIc {h : Hp} {c a d b : Nat} {v w : Int32} (hdc : d ≠ c) (e : m_I h d b = w) : m_I (p_I h c a v) d b = w := (if_neg (fun q => hdc q.1)).trans e
theorem g_IIa {h : Hp} {c a d b : Nat} {v w : Int32} (hba : b ≠ a) (e : m_I h d b = w) : m_I (p_I h c a v) d b = w := (if_neg (fun q => hba q.2)).trans e
theorem g_JJs {h : Hp} {c a : Nat} {v : Int64} : m_J (p_J h c a v) c a = v := if_pos ⟨rfl, rfl⟩
theorem g_JJc {h : Hp} {c a d b : Nat} {v w : Int64} (hdc : d ≠ c) (e : m_J h d b = w) : m_J (p_J h c a v) d b = w := (if_neg (fun q => hdc q.1)).trans e
theorem g_JJa {h : Hp} {c a d b : Nat} {v w : Int64} (hba : b ≠ a) (e : m_J h d b = w) : m_J (p_J h c a v) d b = w := (if_neg (fun q => hba q.2)).trans e
theorem g_RRs {h : Hp} {c a : Nat} {v : Option Nat} : m_R (p_R h c a v) c a = v := if_pos ⟨rfl, rfl⟩
theorem g_RRc {h : Hp} {c a d b : Nat} {v w : Option Nat} (hdc : d ≠ c) (e : m_R h d b = w) : m_R (p_R h c a v) d b = w := (if_neg (fun q => hdc q.1)).trans e
theorem g_RRa {h : Hp} {c a d b : Nat} {v w : Option Nat} (hba : b ≠ a) (e : m_R h d b = w) : m_R (p_R h c a v) d b = w := (if_neg (fun q => hba q.2)).trans e
theorem g_XXs {h : Hp} {c a : Nat} {v : Int32} : m_X (p_X h c a v) c a = v := if_pos ⟨rfl, rfl⟩
theorem g_XXc {h : Hp} {c a d b : Nat} {v w : Int32} (hdc : d ≠ c) (e : m_X h d b = w) : m_X (p_X h c a v) d b = w := (if_neg (fun q => hdc q.1)).trans e
theorem g_XXa {h : Hp} {c a d b : Nat} {v w : Int32} (hba : b ≠ a) (e : m_X h d b = w) : m_X (p_X h c a v) d b = w := (if_neg (fun q => hba q.2)).trans e
theorem g_YYs {h : Hp} {c a : Nat} {v : Int64} : m_Y (p_Y h c a v) c a = v := if_pos ⟨rfl, rfl⟩
theorem g_YYc {h : Hp} {c a d b : Nat} {v w : Int64} (hdc : d ≠ c) (e : m_Y h d b = w) : m_Y (p_Y h c a v) d b = w := (if_neg (fun q => hdc q.1)).trans e
theorem g_YYa {h : Hp} {c a d b : Nat} {v w : Int64} (hba : b ≠ a) (e : m_Y h d b = w) : m_Y (p_Y h c a v) d b = w := (if_neg (fun q => hba q.2)).trans e
theorem g_ZZs {h : Hp} {c a : Nat} {v : Option Nat} : m_Z (p_Z h c a v) c a = v := if_pos ⟨rfl, rfl⟩
theorem g_ZZc {h : Hp} {c a d b : Nat} {v w : Option Nat} (hdc : d ≠ c) (e : m_Z h d b = w) : m_Z (p_Z h c a v) d b = w := (if_neg (fun q => hdc q.1)).trans e
theorem g_ZZa {h : Hp} {c a d b : Nat} {v w : Option Nat} (hba : b ≠ a) (e : m_Z h d b = w) : m_Z (p_Z h c a v) d b = w := (if_neg (fun q => hba q.2)).trans e
/-- what the fields of a class are: 0 an int (or boolean), 1 a long, 2 a reference -/
def m_ty : Nat → List Nat
  | 0 => [0, 0, 0, 0, 0]
  | 1 => [2, 2, 0, 0, 0, 0, 0, 2, 2, 2]
  | 2 => [0, 1, 2, 0]
  | 3 => [0, 0, 2, 2, 2, 0, 2, 2, 2, 0, 0, 0, 0, 0]
  | 4 => [2, 2, 0, 0, 0, 0, 1, 0]
  | 5 => [2, 0, 2, 0, 2, 2, 0, 2]
  | 6 => [0, 0, 2, 0, 0]
  | 7 => [1, 0, 0, 2, 2, 0, 0, 0, 0, 2, 2, 2, 2, 0, 2, 2, 2]
  | 8 => [0, 0, 2, 2]
  | 9 => [2, 2, 2, 2, 0]
  | 10 => [0, 2, 2, 2, 2, 2]
  | 11 => [2, 0, 2, 2, 2, 2, 2, 2, 0, 2, 2, 2, 0, 2, 0]
  | 12 => [2, 0, 0, 0]
  | 13 => [2, 0, 0, 0]
  | 14 => []
  | _ => []
def m_v (h : Hp) (c a k : Nat) : Value := match (m_ty c).getD k 0 with
  | 0 => .int (m_I h (c * 64 + k) a)
  | 1 => .long (m_J h (c * 64 + k) a)
  | _ => va_rf (m_R h (c * 64 + k) a)
def m_f (h : Hp) (c a : Nat) : List Value := (List.range (m_ty c).length).map (m_v h c a)
def m_E (ca : Nat → ClassId) (h : Hp) (a : Nat) : va_E :=
  if m_K h a < 15 then .inr (m_K h a, m_f h (m_K h a) a)
  else if m_K h a = 20 then .inl (ca 20, m_N h a, .inl (m_X h a))
  else if m_K h a = 21 then .inl (ca 21, m_N h a, .inr (.inl (m_Y h a)))
  else if m_K h a = 22 then .inl (ca 22, m_N h a, .inl (m_X h a))
  else if m_K h a = 23 then .inl (ca 23, m_N h a, .inl (m_X h a))
  else .inl (ca (m_K h a), m_N h a, .inr (.inr (.inr (.inr (m_Z h a)))))
theorem m_E_o {ca : Nat → ClassId} {h : Hp} {a c : Nat} (hk : m_K h a = c) (hc : c < 15) : m_E ca h a = .inr (c, m_f h c a) := by
  unfold m_E
  rw [hk, if_pos hc]
theorem m_E_20 {ca : Nat → ClassId} {h : Hp} {a : Nat} (hk : m_K h a = 20) : m_E ca h a = .inl (ca 20, m_N h a, .inl (m_X h a)) := by simp [m_E, hk]
theorem m_E_21 {ca : Nat → ClassId} {h : Hp} {a : Nat} (hk : m_K h a = 21) : m_E ca h a = .inl (ca 21, m_N h a, .inr (.inl (m_Y h a))) := by simp [m_E, hk]
theorem m_E_22 {ca : Nat → ClassId} {h : Hp} {a : Nat} (hk : m_K h a = 22) : m_E ca h a = .inl (ca 22, m_N h a, .inl (m_X h a)) := by simp [m_E, hk]
theorem m_E_23 {ca : Nat → ClassId} {h : Hp} {a : Nat} (hk : m_K h a = 23) : m_E ca h a = .inl (ca 23, m_N h a, .inl (m_X h a)) := by simp [m_E, hk]
theorem m_E_q {ca : Nat → ClassId} {h : Hp} {a c : Nat} (hk : m_K h a = c) (hc : 23 < c) : m_E ca h a = .inl (ca c, m_N h a, .inr (.inr (.inr (.inr (m_Z h a))))) := by
  unfold m_E
  rw [hk, if_neg (by omega), if_neg (by omega), if_neg (by omega), if_neg (by omega), if_neg (by omega)]
theorem m_f_get {h : Hp} {c a k : Nat} (hk : k < (m_ty c).length) : (m_f h c a)[k]? = some (m_v h c a k) := by
  unfold m_f
  rw [List.getElem?_map, List.getElem?_range hk]
  rfl
theorem m_f_len {h : Hp} {c a : Nat} : (m_f h c a).length = (m_ty c).length := by
  unfold m_f
  rw [List.length_map, List.length_range]
/-- an object's cell behind a store -/
theorem m_f_set {h h' : Hp} {c a k : Nat} {v : Value} (hk : k < (m_ty c).length) (e1 : m_v h' c a k = v) (e2 : ∀ j, j ≠ k → m_v h' c a j = m_v h c a j) : (m_f h c a).set k v = m_f h' c a := by
  apply List.ext_getElem?
  intro j
  by_cases hj : j < (m_ty c).length
  · rw [m_f_get hj]
    by_cases hjk : j = k
    · subst hjk
      rw [List.getElem?_set_self (by rw [m_f_len]; exact hj), e1]
    · rw [List.getElem?_set_ne (fun q => hjk q.symm), m_f_get hj, e2 j hjk]
  · rw [List.getElem?_eq_none (by rw [List.length_set, m_f_len]; omega), List.getElem?_eq_none (by rw [m_f_len]; omega)]
theorem m_up_o {ca : Nat → ClassId} {h h' : Hp} {c a k : Nat} {v : Value} (hK : m_K h a = c) (hc : c < 15) (hKK : m_K h' = m_K h) (hk : k < (m_ty c).length) (e1 : m_v h' c a k = v) (e2 : ∀ j, j ≠ k → m_v h' c a j = m_v h c a j) (eo : ∀ b, b ≠ a → m_E ca h' b = m_E ca h b) : ∀ b, va_up (m_E ca h) a (.inr (c, (m_f h c a).set k v)) b = m_E ca h' b := by
  intro b
  by_cases hb : b = a
  · subst hb
    rw [va_up_self, m_E_o (by rw [hKK]; exact hK) hc, m_f_set hk e1 e2]
  · rw [va_up_ne _ _ hb, eo b hb]
theorem m_E_I {ca : Nat → ClassId} {h : Hp} {c a b : Nat} {v : Int32} (hb : b ≠ a) : m_E ca (p_I h c a v) b = m_E ca h b := by
  have e : ∀ d k, m_v (p_I h c a v) d b k = m_v h d b k := fun d k => by
    unfold m_v
    simp only [g_II, g_JI, g_RI]
    rw [if_neg (fun q => hb q.2)]
  have e2 : ∀ d, m_f (p_I h c a v) d b = m_f h d b := fun d => by
    unfold m_f
    exact List.map_congr_left (fun k _ => e d k)
  unfold m_E
  simp only [g_KI, g_NI, g_XI, g_YI, g_ZI, e2]
  rfl
theorem m_E_J {ca : Nat → ClassId} {h : Hp} {c a b : Nat} {v : Int64} (hb : b ≠ a) : m_E ca (p_J h c a v) b = m_E ca h b := by
  have e : ∀ d k, m_v (p_J h c a v) d b k = m_v h d b k := fun d k => by
    unfold m_v
    simp only [g_IJ, g_JJ, g_RJ]
    rw [if_neg (fun q => hb q.2)]
  have e2 : ∀ d, m_f (p_J h c a v) d b = m_f h d b := fun d => by
    unfold m_f
    exact List.map_congr_left (fun k _ => e d k)
  unfold m_E
  simp only [g_KJ, g_NJ, g_XJ, g_YJ, g_ZJ, e2]
  rfl
theorem m_E_R {ca : Nat → ClassId} {h : Hp} {c a b : Nat} {v : Option Nat} (hb : b ≠ a) : m_E ca (p_R h c a v) b = m_E ca h b := by
  have e : ∀ d k, m_v (p_R h c a v) d b k = m_v h d b k := fun d k => by
    unfold m_v
    simp only [g_IR, g_JR, g_RR]
    rw [if_neg (fun q => hb q.2)]
  have e2 : ∀ d, m_f (p_R h c a v) d b = m_f h d b := fun d => by
    unfold m_f
    exact List.map_congr_left (fun k _ => e d k)
  unfold m_E
  simp only [g_KR, g_NR, g_XR, g_YR, g_ZR, e2]
  rfl
theorem m_E_X {ca : Nat → ClassId} {h : Hp} {a j b : Nat} {v : Int32} (hb : b ≠ a) : m_E ca (p_X h a j v) b = m_E ca h b := by
  have e : m_X (p_X h a j v) b = m_X h b := by
    funext i
    rw [g_XX, if_neg (fun q => hb q.1)]
  unfold m_E m_f m_v
  simp only [g_KX, g_NX, g_IX, g_JX, g_RX, e]
  rfl
theorem m_E_Y {ca : Nat → ClassId} {h : Hp} {a j b : Nat} {v : Int64} (hb : b ≠ a) : m_E ca (p_Y h a j v) b = m_E ca h b := by
  have e : m_Y (p_Y h a j v) b = m_Y h b := by
    funext i
    rw [g_YY, if_neg (fun q => hb q.1)]
  unfold m_E m_f m_v
  simp only [g_KY, g_NY, g_IY, g_JY, g_RY, e]
  rfl
theorem m_E_Z {ca : Nat → ClassId} {h : Hp} {a j b : Nat} {v : Option Nat} (hb : b ≠ a) : m_E ca (p_Z h a j v) b = m_E ca h b := by
  have e : m_Z (p_Z h a j v) b = m_Z h b := by
    funext i
    rw [g_ZZ, if_neg (fun q => hb q.1)]
  unfold m_E m_f m_v
  simp only [g_KZ, g_NZ, g_IZ, g_JZ, g_RZ, e]
  rfl
theorem m_64 {c j k : Nat} (h : j ≠ k) : ¬ (c * 64 + j = c * 64 + k) := by omega
theorem m_putI {ca : Nat → ClassId} {h : Hp} {c a k : Nat} {v : Int32} (hK : m_K h a = c) (hc : c < 15) (hk : k < (m_ty c).length) (ht : (m_ty c).getD k 0 = 0) : ∀ b, va_up (m_E ca h) a (.inr (c, (m_f h c a).set k (.int v))) b = m_E ca (p_I h (c * 64 + k) a v) b := by
  refine m_up_o hK hc rfl hk ?_ (fun j hj => ?_) (fun b hb => m_E_I hb)
  · unfold m_v; rw [ht]; show Value.int (m_I (p_I h (c * 64 + k) a v) (c * 64 + k) a) = _; rw [g_IIs]
  · unfold m_v; simp only [g_II, g_JI, g_RI]; rw [if_neg (fun q => m_64 hj q.1)]
theorem m_putJ {ca : Nat → ClassId} {h : Hp} {c a k : Nat} {v : Int64} (hK : m_K h a = c) (hc : c < 15) (hk : k < (m_ty c).length) (ht : (m_ty c).getD k 0 = 1) : ∀ b, va_up (m_E ca h) a (.inr (c, (m_f h c a).set k (.long v))) b = m_E ca (p_J h (c * 64 + k) a v) b := by
  refine m_up_o hK hc rfl hk ?_ (fun j hj => ?_) (fun b hb => m_E_J hb)
  · unfold m_v; rw [ht]; show Value.long (m_J (p_J h (c * 64 + k) a v) (c * 64 + k) a) = _; rw [g_JJs]
  · unfold m_v; simp only [g_IJ, g_JJ, g_RJ]; rw [if_neg (fun q => m_64 hj q.1)]
theorem m_putR {ca : Nat → ClassId} {h : Hp} {c a k : Nat} {v : Option Nat} (hK : m_K h a = c) (hc : c < 15) (hk : k < (m_ty c).length) (ht : (m_ty c).getD k 0 = 2) : ∀ b, va_up (m_E ca h) a (.inr (c, (m_f h c a).set k (va_rf v))) b = m_E ca (p_R h (c * 64 + k) a v) b := by
  refine m_up_o hK hc rfl hk ?_ (fun j hj => ?_) (fun b hb => m_E_R hb)
  · unfold m_v; rw [ht]; show va_rf (m_R (p_R h (c * 64 + k) a v) (c * 64 + k) a) = _; rw [g_RRs]
  · unfold m_v; simp only [g_IR, g_JR, g_RR]; rw [if_neg (fun q => m_64 hj q.1)]
theorem m_row {α : Type} {f : Nat → Nat → α} {a j : Nat} {v : α} : m_u f a j v a = (fun i => if i = j then v else f a i) := by
  funext i
  unfold m_u
  by_cases hi : i = j
  · rw [if_pos ⟨rfl, hi⟩, if_pos hi]
  · rw [if_neg (fun q => hi q.2), if_neg hi]
theorem m_putaI {ca : Nat → ClassId} {h : Hp} {a j : Nat} {v : Int32} (hK : m_K h a = 20) : ∀ b, va_up (m_E ca h) a (.inl (ca 20, m_N h a, .inl (upd (m_X h a) j v))) b = m_E ca (p_X h a j v) b := by
  intro b
  by_cases hb : b = a
  · subst hb
    rw [va_up_self, m_E_20 (show m_K (p_X h b j v) b = 20 from hK)]
    show _ = (Sum.inl (ca 20, m_N h b, Sum.inl (m_u (m_X h) b j v b)) : va_E)
    rw [m_row]
    rfl
  · rw [va_up_ne _ _ hb, m_E_X hb]
theorem m_putaB {ca : Nat → ClassId} {h : Hp} {a j : Nat} {v : Int32} (hK : m_K h a = 22) : ∀ b, va_up (m_E ca h) a (.inl (ca 22, m_N h a, .inl (upd (m_X h a) j v))) b = m_E ca (p_X h a j v) b := by
  intro b
  by_cases hb : b = a
  · subst hb
    rw [va_up_self, m_E_22 (show m_K (p_X h b j v) b = 22 from hK)]
    show _ = (Sum.inl (ca 22, m_N h b, Sum.inl (m_u (m_X h) b j v b)) : va_E)
    rw [m_row]
    rfl
  · rw [va_up_ne _ _ hb, m_E_X hb]
theorem m_putaT {ca : Nat → ClassId} {h : Hp} {a j : Nat} {v : Int32} (hK : m_K h a = 23) : ∀ b, va_up (m_E ca h) a (.inl (ca 23, m_N h a, .inl (upd (m_X h a) j v))) b = m_E ca (p_X h a j v) b := by
  intro b
  by_cases hb : b = a
  · subst hb
    rw [va_up_self, m_E_23 (show m_K (p_X h b j v) b = 23 from hK)]
    show _ = (Sum.inl (ca 23, m_N h b, Sum.inl (m_u (m_X h) b j v b)) : va_E)
    rw [m_row]
    rfl
  · rw [va_up_ne _ _ hb, m_E_X hb]
theorem m_putaJ {ca : Nat → ClassId} {h : Hp} {a j : Nat} {v : Int64} (hK : m_K h a = 21) : ∀ b, va_up (m_E ca h) a (.inl (ca 21, m_N h a, .inr (.inl (vp_updL (m_Y h a) j v)))) b = m_E ca (p_Y h a j v) b := by
  intro b
  by_cases hb : b = a
  · subst hb
    rw [va_up_self, m_E_21 (show m_K (p_Y h b j v) b = 21 from hK)]
    show _ = (Sum.inl (ca 21, m_N h b, Sum.inr (Sum.inl (m_u (m_Y h) b j v b))) : va_E)
    rw [m_row]
    rfl
  · rw [va_up_ne _ _ hb, m_E_Y hb]
theorem m_putaR {ca : Nat → ClassId} {h : Hp} {a j c : Nat} {v : Option Nat} (hK : m_K h a = c) (hc : 23 < c) : ∀ b, va_up (m_E ca h) a (.inl (ca c, m_N h a, .inr (.inr (.inr (.inr (va_up (m_Z h a) j v)))))) b = m_E ca (p_Z h a j v) b := by
  intro b
  by_cases hb : b = a
  · subst hb
    rw [va_up_self, m_E_q (show m_K (p_Z h b j v) b = c from hK) hc]
    show _ = (Sum.inl (ca c, m_N h b, Sum.inr (Sum.inr (Sum.inr (Sum.inr (m_u (m_Z h) b j v b))))) : va_E)
    rw [m_row]
    rfl
  · rw [va_up_ne _ _ hb, m_E_Z hb]
